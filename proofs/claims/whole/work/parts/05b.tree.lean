set_option maxHeartbeats 4000000 in
set_option maxRecDepth 100000 in
/-- Tree.cell(i, what) -/
theorem c_X2_cell (l : Launch) (dC : Nat → ClassId) (dI : Nat → Nat → Nat) (A : Nat → Nat) (cI cQ : ClassId) (σ : HS) {i j : Nat} (hij : 3 * i + j < 93) : Met l yX2_cell wsX2_cell ({ frames := 0, cells := 0, slots := 0, locals := 0 }) (va_Pc [.ref (A 2), .int (nI i), .int (nI j)] (hfP dC dI A cI cQ σ)) (vp_Si (fun r => r = tcS σ (3 * i + j))) 0 0 (fun _ => False) := by
  refine Met.ofW (cc := cX2_cell) (maxL := 3) (ret := (some .int)) (by decide) rfl ?_
  intro p e s m args below meth c s₁ B hml hv
  obtain ⟨rfl, hP, hX⟩ := hv
  have hx := B.exec
  have hb := B.bytes
  have hr := B.returns
  have hts := atoms_spec (ws := wsX2_cell) B.pre
  have hown : s.vm.findClass RX2 = some m.cls := findClass_of_methodNamed B.named
  have hlocks := B.notSynchronized
  have hK := hX.1
  have hinX2 : ∀ w ∈ wsX20, w ∈ wsX2_cell := fun _ h => List.mem_cons_of_mem _ (List.mem_append_right _ h)
  have hl := lv_entry ([.ref (A 2), .int (nI i), .int (nI j)]) (n := 3) (Nat.le_of_ble_eq_true rfl)
  rw [lg_entry_eq]
  generalize (lg_sl ([.ref (A 2), .int (nI i), .int (nI j)]) ++ List.replicate (3 - (lg_sl ([.ref (A 2), .int (nI i), .int (nI j)])).length) Slot.unset).toArray = ls at hl ⊢
  have hl : lv_has ls 3 [(0, .ref (A 2)), (1, .int (nI i)), (2, .int (nI j))] := hl
  refine lv_aload_n hx hb dX2_cell_0 rfl (lv_at hl 0 rfl) ?_
  refine va_get (D := (dC, dI)) (ci := 2) (v := .ref (A 3)) (C := RX2) (T := TX2) (N := 2) hx hb hts hinX2 hown hK hP 2 rfl rfl 0 (by decide) (hts _ (List.mem_of_getElem? (i := 1) rfl)) (fun _ h9 => h9) rfl dX2_cell_1 ?_
  refine lv_iconst (v := 3) hx hb dX2_cell_4 (by decide) ?_
  refine lv_iload_n hx hb dX2_cell_5 rfl (lv_at hl 1 rfl) ?_
  refine lv_imul hx hb dX2_cell_6 ?_
  refine lv_topi (fun y0 ey0 => ?_)
  obtain rfl : y0 = nI (3 * i) := ey0.trans (pk_mul 3 i)
  refine lv_iload_n hx hb dX2_cell_7 rfl (lv_at hl 2 rfl) ?_
  refine lv_iadd hx hb dX2_cell_8 ?_
  refine lv_topi (fun y1 ey1 => ?_)
  obtain rfl : y1 = nI (3 * i + j) := ey1.trans (nI_add (3 * i) j)
  refine va_iald hx hb hK hP 3 0 rfl rfl (vp_in_nI (show (3 * i + j) < 93 by omega) (by decide)) dX2_cell_9 ?_
  rw [nI_clamp (show (3 * i + j) < 2 ^ 31 by have := (show (3 * i + j) < 93 by omega); omega)]
  exact W.iret hx hb hr (fun t ht hW => ⟨_, rfl, rfl, ht⟩) (fun q h => nomatch h) dX2_cell_10
set_option maxHeartbeats 4000000 in
set_option maxRecDepth 100000 in
/-- Tree.open(): the next number, marked as unfinished -/
theorem c_X2_open (l : Launch) (dC : Nat → ClassId) (dI : Nat → Nat → Nat) (A : Nat → Nat) (cI cQ : ClassId) (σ : HS) (sz : Nat) {k : Nat} (hk : k < 31) (hc : ctS σ = nI k) : Met l yX2_open wsX2_open ({ frames := 1, cells := 0, slots := 0, locals := 22 }) (va_Pc [.ref (A 2)] (hfF dC dI A cI cQ sz σ)) (va_Qi (fun (r : Int32) (τ : HS) => r = nI k ∧ τ = (σ.1, (nI (k + 1), upd (tcS σ) (3 * k) (-2)), σ.2.2)) (hfB dC dI A cI cQ (va_A (hfW A cI cQ σ) sz)) (va_A (hfW A cI cQ σ) sz)) 0 0 (va_A (hfW A cI cQ σ) sz) := by
  obtain ⟨⟨cl, st, go, hi, ma⟩, ⟨ct, tc⟩, ⟨be, co, ap⟩, tr, ac, nx⟩ := σ
  refine Met.ofW (cc := cX2_open) (maxL := 1) (ret := (some .int)) (by decide) rfl ?_
  intro p e s m args below meth c s₁ B hml hv
  obtain ⟨rfl, hsz, hP, hX, hD0⟩ := hv
  have hx := B.exec
  have hb := B.bytes
  have hr := B.returns
  have hts := atoms_spec (ws := wsX2_open) B.pre
  have hown : s.vm.findClass RX2 = some m.cls := findClass_of_methodNamed B.named
  have hlocks := B.notSynchronized
  have hK := hX.1
  have hinX2 : ∀ w ∈ wsX20, w ∈ wsX2_open := fun _ h => List.mem_cons_of_mem _ (List.mem_append_right _ h)
  subst hsz
  have hD := hD0.self (sz := s.heap.size)
  generalize hAe : va_A (hfW A cI cQ _) s.heap.size = V at hD ⊢
  have hA : ∀ q : Nat, s.heap.size ≤ q → V q := fun q h => by rw [← hAe]; exact Or.inr h
  have hS : va_S V s.heap s.heap [] := va_S.rf
  have hl := lv_entry ([.ref (A 2)]) (n := 1) (Nat.le_of_ble_eq_true rfl)
  rw [lg_entry_eq]
  generalize (lg_sl ([.ref (A 2)]) ++ List.replicate (1 - (lg_sl ([.ref (A 2)])).length) Slot.unset).toArray = ls at hl ⊢
  have hl : lv_has ls 1 [(0, .ref (A 2))] := hl
  have hP : va_P (dC, dI) vwCl (hfL A cI cQ cl st go hi ma ct tc be co ap tr ac nx) s.heap := hP
  have hD : va_D V (hfL A cI cQ cl st go hi ma ct tc be co ap tr ac nx) := hD
  have hc : ct = nI k := hc
  subst hc
  have hP : va_P (dC, dI) vwCl (hfL A cI cQ cl st go hi ma (nI k) tc be co ap tr ac nx) s.heap := hP
  have hD : va_D V (hfL A cI cQ cl st go hi ma (nI k) tc be co ap tr ac nx) := hD
  refine lv_aload_n hx hb dX2_open_0 rfl (lv_at hl 0 rfl) ?_
  refine lv_aload_n hx hb dX2_open_1 rfl (lv_at hl 0 rfl) ?_
  refine va_get (D := (dC, dI)) (ci := 2) (v := .int (nI k)) (C := RX2) (T := TX2) (N := 2) hx hb hts hinX2 hown hK hP 2 rfl rfl 1 (by decide) (hts _ (List.mem_of_getElem? (i := 1) rfl)) (fun _ h9 => h9) rfl dX2_open_2 ?_
  refine lv_bipush (v := (-2)) hx hb dX2_open_5 (by decide) ?_
  have hFc := hf_free (σ := ((cl, st, go, hi, ma), (nI k, tc), (be, co, ap), tr, ac, nx)) hD hS hA
  refine va_callv (va_runV (As := [.int (nI k), .int (-2)]) (rest := []) ⟨hx, hb, hml, hown, hts⟩ (c_X2_setAction l dC dI A cI cQ ((cl, st, go, hi, ma), (nI k, tc), (be, co, ap), tr, ac, nx) s.heap.size (i := k) hk (-2)) (cwV 2 hts gX2_open_X2_setAction rfl rfl rfl (by decide +kernel) ⟨Nat.le_of_ble_eq_true rfl, Nat.le_of_ble_eq_true rfl⟩) ⟨bl_F, va_recv hK hP (ci := 2) (q0 := 2) rfl rfl, fun U hU hW => ⟨rfl, by rw [hU], by rw [hU]; exact hP, hX.warm hW, hf_any hD⟩⟩ rfl rfl hl.1 rfl (lv_room (Nat.le_of_ble_eq_true rfl)) dX2_open_7 ⟨Nat.zero_le _, Nat.zero_le _⟩) hS (fun q _ h => hFc q h) hFc (fun u t H locs ht hvm hw hB hz1 hk1 hS => ?_)
  obtain ⟨hP1, hD1⟩ := hB
  rw [ht] at hP1
  subst hw
  have hP : va_P (dC, dI) vwCl (hfL A cI cQ cl st go hi ma (nI k) (upd tc (3 * k) (-2)) be co ap tr ac nx) H := hP1
  have hD : va_D V (hfL A cI cQ cl st go hi ma (nI k) (upd tc (3 * k) (-2)) be co ap tr ac nx) := hf_weak hD1 hFc
  clear hP1 hD1 hFc
  refine lv_aload_n hx hb dX2_open_10 rfl (lv_at hl 0 rfl) ?_
  refine lv_dup hx hb dX2_open_11 rfl ?_
  refine va_get (D := (dC, dI)) (ci := 2) (v := .int (nI k)) (C := RX2) (T := TX2) (N := 2) hx hb hts hinX2 hown hK hP 2 rfl rfl 1 (by decide) (hts _ (List.mem_of_getElem? (i := 1) rfl)) (fun _ h9 => h9) rfl dX2_open_12 ?_
  refine lv_iconst (v := 1) hx hb dX2_open_15 (by decide) ?_
  refine lv_iadd hx hb dX2_open_16 ?_
  refine lv_topi (fun y0 ey0 => ?_)
  obtain rfl : y0 = nI (k + 1) := ey0.trans (nI_1 k)
  refine va_put (D := (dC, dI)) (ci := 2) (v := .int (nI (k + 1))) (ty := .int) (C := RX2) (T := TX2) (N := 2) hx hb hts hinX2 tyX2 tyX2_ok nmX2 hown hK hP hD hS 2 rfl rfl 1 (by decide) (hts _ (List.mem_of_getElem? (i := 1) rfl)) (fun _ h9 => h9) rfl (by decide +kernel) rfl rfl (Nat.le_of_ble_eq_true rfl) dX2_open_17 (fun H locs hP hD hS => ?_)
  have hP : va_P (dC, dI) vwCl (hfL A cI cQ cl st go hi ma (nI (k + 1)) (upd tc (3 * k) (-2)) be co ap tr ac nx) H := hP
  have hD : va_D V (hfL A cI cQ cl st go hi ma (nI (k + 1)) (upd tc (3 * k) (-2)) be co ap tr ac nx) := hD
  refine lv_aload_n hx hb dX2_open_20 rfl (lv_at hl 0 rfl) ?_
  refine va_get (D := (dC, dI)) (ci := 2) (v := .int (nI (k + 1))) (C := RX2) (T := TX2) (N := 2) hx hb hts hinX2 hown hK hP 2 rfl rfl 1 (by decide) (hts _ (List.mem_of_getElem? (i := 1) rfl)) (fun _ h9 => h9) rfl dX2_open_21 ?_
  refine lv_iconst (v := 1) hx hb dX2_open_24 (by decide) ?_
  refine lv_isub hx hb dX2_open_25 ?_
  refine lv_topi (fun y1 ey1 => ?_)
  obtain rfl : y1 = nI k := ey1.trans (nI_pred k)
  exact W.iret hx hb hr (fun t ht hW => ⟨⟨_, ((cl, st, go, hi, ma), (nI (k + 1), upd tc (3 * k) (-2)), (be, co, ap), tr, ac, nx), rfl, ⟨rfl, rfl⟩, by rw [ht]; exact hP, hD⟩, hS.F ht⟩) hS.2.2 dX2_open_26
set_option maxHeartbeats 4000000 in
set_option maxRecDepth 100000 in
/-- Tree.close(me, a, part0, part1) -/
theorem c_X2_close (l : Launch) (dC : Nat → ClassId) (dI : Nat → Nat → Nat) (A : Nat → Nat) (cI cQ : ClassId) (σ : HS) (sz : Nat) {n : Nat} (hn : n < 31) (x0 x1 x2 : Int32) : Met l yX2_close wsX2_close ({ frames := 1, cells := 0, slots := 0, locals := 22 }) (va_Pc [.ref (A 2), .int (nI n), .int x0, .int x1, .int x2] (hfF dC dI A cI cQ sz σ)) (va_Qi (fun (r : Int32) (τ : HS) => r = (cloS (ctS σ) (tcS σ) n x0 x1 x2).1 ∧ τ = (σ.1, (cloS (ctS σ) (tcS σ) n x0 x1 x2).2, σ.2.2)) (hfB dC dI A cI cQ (va_A (hfW A cI cQ σ) sz)) (va_A (hfW A cI cQ σ) sz)) 0 0 (va_A (hfW A cI cQ σ) sz) := by
  obtain ⟨⟨cl, st, go, hi, ma⟩, ⟨ct, tc⟩, ⟨be, co, ap⟩, tr, ac, nx⟩ := σ
  refine Met.ofW (cc := cX2_close) (maxL := 6) (ret := (some .int)) (by decide) rfl ?_
  intro p e s m args below meth c s₁ B hml hv
  obtain ⟨rfl, hsz, hP, hX, hD0⟩ := hv
  have hx := B.exec
  have hb := B.bytes
  have hr := B.returns
  have hts := atoms_spec (ws := wsX2_close) B.pre
  have hown : s.vm.findClass RX2 = some m.cls := findClass_of_methodNamed B.named
  have hlocks := B.notSynchronized
  have hK := hX.1
  have hinX2 : ∀ w ∈ wsX20, w ∈ wsX2_close := fun _ h => List.mem_cons_of_mem _ (List.mem_append_right _ h)
  subst hsz
  have hD := hD0.self (sz := s.heap.size)
  generalize hAe : va_A (hfW A cI cQ _) s.heap.size = V at hD ⊢
  have hA : ∀ q : Nat, s.heap.size ≤ q → V q := fun q h => by rw [← hAe]; exact Or.inr h
  have hS : va_S V s.heap s.heap [] := va_S.rf
  have hl := lv_entry ([.ref (A 2), .int (nI n), .int x0, .int x1, .int x2]) (n := 6) (Nat.le_of_ble_eq_true rfl)
  rw [lg_entry_eq]
  generalize (lg_sl ([.ref (A 2), .int (nI n), .int x0, .int x1, .int x2]) ++ List.replicate (6 - (lg_sl ([.ref (A 2), .int (nI n), .int x0, .int x1, .int x2])).length) Slot.unset).toArray = ls at hl ⊢
  have hl : lv_has ls 6 [(0, .ref (A 2)), (1, .int (nI n)), (2, .int x0), (3, .int x1), (4, .int x2)] := hl
  have hP : va_P (dC, dI) vwCl (hfL A cI cQ cl st go hi ma ct tc be co ap tr ac nx) s.heap := hP
  have hD : va_D V (hfL A cI cQ cl st go hi ma ct tc be co ap tr ac nx) := hD
  refine lv_iconst (v := 0) hx hb dX2_close_0 (by decide) ?_
  refine lv_istore (lv' := [(5, .int 0), (0, .ref (A 2)), (1, .int (nI n)), (2, .int x0), (3, .int x1), (4, .int x2)]) hx hb dX2_close_1 hl (by decide) rfl (fun ls hl => ?_)
  refine w_loopP (pc := 3) n (fun k ls => (∀ j, j < k → (clP tc x0 x1 x2) j = false) ∧ lv_has ls 6 [(0, .ref (A 2)), (1, .int (nI n)), (2, .int x0), (3, .int x1), (4, .int x2), (5, .int (nI k))]) ?_ 0 (Nat.zero_le _) ls ⟨fun j hj => absurd hj (by omega), lv_sub hl [1, 2, 3, 4, 5, 0] rfl⟩
  intro k ls hk hI ih
  obtain ⟨hj, hl⟩ := hI
  refine lv_iload hx hb dX2_close_3 (lv_at hl 5 rfl) ?_
  refine lv_iload_n hx hb dX2_close_5 rfl (lv_at hl 1 rfl) ?_
  refine lv_icmp_ge (tgt := 57) hx hb dX2_close_6 (by decide) (fun c6_0 => ?_) (fun c6_0 => ?_)
  · skip
    obtain rfl := ctr_ge (N := n) rfl (by omega) hk c6_0
    refine lv_aload_n hx hb dX2_close_57 rfl (lv_at hl 0 rfl) ?_
    refine lv_iload_n hx hb dX2_close_58 rfl (lv_at hl 1 rfl) ?_
    refine lv_iload_n hx hb dX2_close_59 rfl (lv_at hl 2 rfl) ?_
    have hFc := hf_free (σ := ((cl, st, go, hi, ma), (ct, tc), (be, co, ap), tr, ac, nx)) hD hS hA
    refine va_callv (va_runV (As := [.int (nI k), .int x0]) (rest := []) ⟨hx, hb, hml, hown, hts⟩ (c_X2_setAction l dC dI A cI cQ ((cl, st, go, hi, ma), (ct, tc), (be, co, ap), tr, ac, nx) s.heap.size (i := k) (by omega) x0) (cwV 2 hts gX2_close_X2_setAction rfl rfl rfl (by decide +kernel) ⟨Nat.le_of_ble_eq_true rfl, Nat.le_of_ble_eq_true rfl⟩) ⟨bl_F, va_recv hK hP (ci := 2) (q0 := 2) rfl rfl, fun U hU hW => ⟨rfl, by rw [hU], by rw [hU]; exact hP, hX.warm hW, hf_any hD⟩⟩ rfl rfl hl.1 rfl (lv_room (Nat.le_of_ble_eq_true rfl)) dX2_close_60 ⟨Nat.zero_le _, Nat.zero_le _⟩) hS (fun q _ h => hFc q h) hFc (fun u t H locs ht hvm hw hB hz1 hk1 hS => ?_)
    obtain ⟨hP1, hD1⟩ := hB
    rw [ht] at hP1
    subst hw
    have hP : va_P (dC, dI) vwCl (hfL A cI cQ cl st go hi ma ct (upd tc (3 * k) x0) be co ap tr ac nx) H := hP1
    have hD : va_D V (hfL A cI cQ cl st go hi ma ct (upd tc (3 * k) x0) be co ap tr ac nx) := hf_weak hD1 hFc
    clear hP1 hD1 hFc
    refine lv_aload_n hx hb dX2_close_63 rfl (lv_at hl 0 rfl) ?_
    refine va_get (D := (dC, dI)) (ci := 2) (v := .ref (A 3)) (C := RX2) (T := TX2) (N := 2) hx hb hts hinX2 hown hK hP 2 rfl rfl 0 (by decide) (hts _ (List.mem_of_getElem? (i := 2) rfl)) (fun _ h9 => h9) rfl dX2_close_64 ?_
    refine lv_iconst (v := 3) hx hb dX2_close_67 (by decide) ?_
    refine lv_iload_n hx hb dX2_close_68 rfl (lv_at hl 1 rfl) ?_
    refine lv_imul hx hb dX2_close_69 ?_
    refine lv_topi (fun y1 ey1 => ?_)
    obtain rfl : y1 = nI (3 * k) := ey1.trans (pk_mul 3 k)
    refine lv_iconst (v := 1) hx hb dX2_close_70 (by decide) ?_
    refine lv_iadd hx hb dX2_close_71 ?_
    refine lv_topi (fun y2 ey2 => ?_)
    obtain rfl : y2 = nI (3 * k + 1) := ey2.trans (nI_1 (3 * k))
    refine lv_iload_n hx hb dX2_close_72 rfl (lv_at hl 3 rfl) ?_
    refine va_iast hx hb hK hP hD hS 3 0 rfl rfl (vp_in_nI (show (3 * k + 1) < 93 by omega) (by decide)) dX2_close_73 (fun H locs hP hD hS => ?_)
    rw [nI_clamp (show (3 * k + 1) < 2 ^ 31 by have := (show (3 * k + 1) < 93 by omega); omega)] at hP hD
    have hP : va_P (dC, dI) vwCl (hfL A cI cQ cl st go hi ma ct (upd (upd tc (3 * k) x0) (3 * k + 1) x1) be co ap tr ac nx) H := hP
    have hD : va_D V (hfL A cI cQ cl st go hi ma ct (upd (upd tc (3 * k) x0) (3 * k + 1) x1) be co ap tr ac nx) := hD
    refine lv_aload_n hx hb dX2_close_74 rfl (lv_at hl 0 rfl) ?_
    refine va_get (D := (dC, dI)) (ci := 2) (v := .ref (A 3)) (C := RX2) (T := TX2) (N := 2) hx hb hts hinX2 hown hK hP 2 rfl rfl 0 (by decide) (hts _ (List.mem_of_getElem? (i := 2) rfl)) (fun _ h9 => h9) rfl dX2_close_75 ?_
    refine lv_iconst (v := 3) hx hb dX2_close_78 (by decide) ?_
    refine lv_iload_n hx hb dX2_close_79 rfl (lv_at hl 1 rfl) ?_
    refine lv_imul hx hb dX2_close_80 ?_
    refine lv_topi (fun y3 ey3 => ?_)
    obtain rfl : y3 = nI (3 * k) := ey3.trans (pk_mul 3 k)
    refine lv_iconst (v := 1) hx hb dX2_close_81 (by decide) ?_
    refine lv_iadd hx hb dX2_close_82 ?_
    refine lv_topi (fun y4 ey4 => ?_)
    obtain rfl : y4 = nI (3 * k + 1) := ey4.trans (nI_1 (3 * k))
    refine lv_iconst (v := 1) hx hb dX2_close_83 (by decide) ?_
    refine lv_iadd hx hb dX2_close_84 ?_
    refine lv_topi (fun y5 ey5 => ?_)
    obtain rfl : y5 = nI (3 * k + 1 + 1) := ey5.trans (nI_1 (3 * k + 1))
    refine lv_iload hx hb dX2_close_85 (lv_at hl 4 rfl) ?_
    refine va_iast hx hb hK hP hD hS 3 0 rfl rfl (vp_in_nI (show (3 * k + 1 + 1) < 93 by omega) (by decide)) dX2_close_87 (fun H locs hP hD hS => ?_)
    rw [nI_clamp (show (3 * k + 1 + 1) < 2 ^ 31 by have := (show (3 * k + 1 + 1) < 93 by omega); omega)] at hP hD
    have hP : va_P (dC, dI) vwCl (hfL A cI cQ cl st go hi ma ct (upd (upd (upd tc (3 * k) x0) (3 * k + 1) x1) (3 * k + 1 + 1) x2) be co ap tr ac nx) H := hP
    have hD : va_D V (hfL A cI cQ cl st go hi ma ct (upd (upd (upd tc (3 * k) x0) (3 * k + 1) x1) (3 * k + 1 + 1) x2) be co ap tr ac nx) := hD
    refine lv_iload_n hx hb dX2_close_88 rfl (lv_at hl 1 rfl) ?_
    exact W.iret hx hb hr (fun t ht hW => ⟨⟨_, ((cl, st, go, hi, ma), (ct, upd (upd (upd tc (3 * k) x0) (3 * k + 1) x1) (3 * k + 1 + 1) x2), (be, co, ap), tr, ac, nx), rfl, by show nI k = (cloS ct tc k x0 x1 x2).1 ∧ _ = ((cl, st, go, hi, ma), (cloS ct tc k x0 x1 x2).2, (be, co, ap), tr, ac, nx); rw [cloS_none (find_no hj)]; exact ⟨rfl, rfl⟩, by rw [ht]; exact hP, hD⟩, hS.F ht⟩) hS.2.2 dX2_close_89
  · skip
    have hlt := ctr_lt (N := n) rfl (by omega) hk c6_0
    refine lv_aload_n hx hb dX2_close_9 rfl (lv_at hl 0 rfl) ?_
    refine lv_iload hx hb dX2_close_10 (lv_at hl 5 rfl) ?_
    refine lv_iconst (v := 0) hx hb dX2_close_12 (by decide) ?_
    refine vp_callSi (W.runV (As := [.int (nI k), .int (nI 0)]) (rest := []) ⟨hx, hb, hml, hown, hts⟩ (c_X2_cell l dC dI A cI cQ ((cl, st, go, hi, ma), (ct, tc), (be, co, ap), tr, ac, nx) (i := k) (j := 0) (by omega)) (cwV 2 hts gX2_close_X2_cell rfl rfl rfl (by decide +kernel) ⟨Nat.le_of_ble_eq_true rfl, Nat.le_of_ble_eq_true rfl⟩) ⟨bl_P, va_recv hK hP (ci := 2) (q0 := 2) rfl rfl, fun U hU hW => ⟨rfl, by rw [hU]; exact hP, hX.warm hW⟩⟩ rfl rfl hl.1 rfl (lv_room (Nat.le_of_ble_eq_true rfl)) dX2_close_13 ⟨Nat.zero_le _, Nat.zero_le _⟩) (fun r er => ?_)
    subst er
    refine lv_iload_n hx hb dX2_close_16 rfl (lv_at hl 2 rfl) ?_
    refine lv_icmp_ne (tgt := 51) hx hb dX2_close_17 (by decide) (fun c17_6 => ?_) (fun c17_6 => ?_)
    · skip
      obtain ⟨y7, ey7⟩ : ∃ y : Int32, y = (nI k) + 1 := ⟨_, rfl⟩
      refine lv_iinc (v := y7) (lv' := [(5, .int y7), (0, .ref (A 2)), (1, .int (nI n)), (2, .int x0), (3, .int x1), (4, .int x2)]) hx hb dX2_close_51 hl (k := 5) rfl (by rw [ey7]; rfl) (by decide) rfl (fun ls hl => ?_)
      obtain rfl : y7 = nI (k + 1) := ey7.trans (nI_1 k)
      refine lv_goto (tgt := 3) hx hb dX2_close_54 (by decide) ?_
      exact ih ls ⟨lt_s hj (clP_0 c17_6), lv_sub hl [1, 2, 3, 4, 5, 0] rfl⟩ hlt
    · skip
      refine lv_aload_n hx hb dX2_close_20 rfl (lv_at hl 0 rfl) ?_
      refine lv_iload hx hb dX2_close_21 (lv_at hl 5 rfl) ?_
      refine lv_iconst (v := 1) hx hb dX2_close_23 (by decide) ?_
      refine vp_callSi (W.runV (As := [.int (nI k), .int (nI 1)]) (rest := []) ⟨hx, hb, hml, hown, hts⟩ (c_X2_cell l dC dI A cI cQ ((cl, st, go, hi, ma), (ct, tc), (be, co, ap), tr, ac, nx) (i := k) (j := 1) (by omega)) (cwV 2 hts gX2_close_X2_cell rfl rfl rfl (by decide +kernel) ⟨Nat.le_of_ble_eq_true rfl, Nat.le_of_ble_eq_true rfl⟩) ⟨bl_P, va_recv hK hP (ci := 2) (q0 := 2) rfl rfl, fun U hU hW => ⟨rfl, by rw [hU]; exact hP, hX.warm hW⟩⟩ rfl rfl hl.1 rfl (lv_room (Nat.le_of_ble_eq_true rfl)) dX2_close_24 ⟨Nat.zero_le _, Nat.zero_le _⟩) (fun r er => ?_)
      subst er
      refine lv_iload_n hx hb dX2_close_27 rfl (lv_at hl 3 rfl) ?_
      refine lv_icmp_ne (tgt := 51) hx hb dX2_close_28 (by decide) (fun c28_8 => ?_) (fun c28_8 => ?_)
      · skip
        obtain ⟨y9, ey9⟩ : ∃ y : Int32, y = (nI k) + 1 := ⟨_, rfl⟩
        refine lv_iinc (v := y9) (lv' := [(5, .int y9), (0, .ref (A 2)), (1, .int (nI n)), (2, .int x0), (3, .int x1), (4, .int x2)]) hx hb dX2_close_51 hl (k := 5) rfl (by rw [ey9]; rfl) (by decide) rfl (fun ls hl => ?_)
        obtain rfl : y9 = nI (k + 1) := ey9.trans (nI_1 k)
        refine lv_goto (tgt := 3) hx hb dX2_close_54 (by decide) ?_
        exact ih ls ⟨lt_s hj (clP_1 c28_8), lv_sub hl [1, 2, 3, 4, 5, 0] rfl⟩ hlt
      · skip
        refine lv_aload_n hx hb dX2_close_31 rfl (lv_at hl 0 rfl) ?_
        refine lv_iload hx hb dX2_close_32 (lv_at hl 5 rfl) ?_
        refine lv_iconst (v := 2) hx hb dX2_close_34 (by decide) ?_
        refine vp_callSi (W.runV (As := [.int (nI k), .int (nI 2)]) (rest := []) ⟨hx, hb, hml, hown, hts⟩ (c_X2_cell l dC dI A cI cQ ((cl, st, go, hi, ma), (ct, tc), (be, co, ap), tr, ac, nx) (i := k) (j := 2) (by omega)) (cwV 2 hts gX2_close_X2_cell rfl rfl rfl (by decide +kernel) ⟨Nat.le_of_ble_eq_true rfl, Nat.le_of_ble_eq_true rfl⟩) ⟨bl_P, va_recv hK hP (ci := 2) (q0 := 2) rfl rfl, fun U hU hW => ⟨rfl, by rw [hU]; exact hP, hX.warm hW⟩⟩ rfl rfl hl.1 rfl (lv_room (Nat.le_of_ble_eq_true rfl)) dX2_close_35 ⟨Nat.zero_le _, Nat.zero_le _⟩) (fun r er => ?_)
        subst er
        refine lv_iload hx hb dX2_close_38 (lv_at hl 4 rfl) ?_
        refine lv_icmp_ne (tgt := 51) hx hb dX2_close_40 (by decide) (fun c40_10 => ?_) (fun c40_10 => ?_)
        · skip
          obtain ⟨y11, ey11⟩ : ∃ y : Int32, y = (nI k) + 1 := ⟨_, rfl⟩
          refine lv_iinc (v := y11) (lv' := [(5, .int y11), (0, .ref (A 2)), (1, .int (nI n)), (2, .int x0), (3, .int x1), (4, .int x2)]) hx hb dX2_close_51 hl (k := 5) rfl (by rw [ey11]; rfl) (by decide) rfl (fun ls hl => ?_)
          obtain rfl : y11 = nI (k + 1) := ey11.trans (nI_1 k)
          refine lv_goto (tgt := 3) hx hb dX2_close_54 (by decide) ?_
          exact ih ls ⟨lt_s hj (clP_2 c40_10), lv_sub hl [1, 2, 3, 4, 5, 0] rfl⟩ hlt
        · skip
          refine lv_aload_n hx hb dX2_close_43 rfl (lv_at hl 0 rfl) ?_
          refine lv_iload_n hx hb dX2_close_44 rfl (lv_at hl 1 rfl) ?_
          refine va_put (D := (dC, dI)) (ci := 2) (v := .int (nI n)) (ty := .int) (C := RX2) (T := TX2) (N := 2) hx hb hts hinX2 tyX2 tyX2_ok nmX2 hown hK hP hD hS 2 rfl rfl 1 (by decide) (hts _ (List.mem_of_getElem? (i := 1) rfl)) (fun _ h9 => h9) rfl (by decide +kernel) rfl rfl (Nat.le_of_ble_eq_true rfl) dX2_close_45 (fun H locs hP hD hS => ?_)
          have hP : va_P (dC, dI) vwCl (hfL A cI cQ cl st go hi ma (nI n) tc be co ap tr ac nx) H := hP
          have hD : va_D V (hfL A cI cQ cl st go hi ma (nI n) tc be co ap tr ac nx) := hD
          refine lv_iload hx hb dX2_close_48 (lv_at hl 5 rfl) ?_
          exact W.iret hx hb hr (fun t ht hW => ⟨⟨_, ((cl, st, go, hi, ma), (nI n, tc), (be, co, ap), tr, ac, nx), rfl, by show _ ∧ _; rw [cloS_some (find_at hlt (clP_t c17_6 c28_8 c40_10) hj)]; exact ⟨rfl, rfl⟩, by rw [ht]; exact hP, hD⟩, hS.F ht⟩) hS.2.2 dX2_close_50
