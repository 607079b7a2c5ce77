set_option maxHeartbeats 4000000 in
set_option maxRecDepth 100000 in
/-- Sight.step(action, done): row done + 1 of what has come, and what is told apart by it -/
theorem c_X1_step (l : Launch) (dC : Nat → ClassId) (dI : Nat → Nat → Nat) (A : Nat → Nat) (cI cQ : ClassId) (σ : HS) (sz : Nat) {a : Nat} (ha : a < 8) {d : Nat} (hd : d < 3) (x y : Nat → Nat) (hx1 : ∀ j, j < 16 → coS σ (16 * d + j) = nI (x j) ∧ x j < 16) (hy1 : ∀ j, j < 16 → nxS σ a j = nI (y j) ∧ y j < 16) : Met l yX1_step wsX1_step ({ frames := 2, cells := 0, slots := 0, locals := 43 }) (va_Pc [.ref (A 4), .ref (A (8 + a)), .int (nI d)] (hfF dC dI A cI cQ sz σ)) (va_Qv (fun τ : HS => τ = (σ.1, σ.2.1, (beS σ, stpN (coS σ) d (fun j => nI (y (x j))) 16, fillN (apS σ) (fun j => apS σ j ||| (if bt (mk (fun j => bt (acS σ a 2) (y (x j)))) j = true then (mk (fun j => bt (acS σ a 2) (y (x j)))) ^^^ (-1) else mk (fun j => bt (acS σ a 2) (y (x j))))) 16), σ.2.2.2)) (hfB dC dI A cI cQ (va_A (hfW A cI cQ σ) sz)) (va_A (hfW A cI cQ σ) sz)) 0 0 (va_A (hfW A cI cQ σ) sz) := by
  obtain ⟨⟨cl, st, go, hi, ma⟩, ⟨ct, tc⟩, ⟨be, co, ap⟩, tr, ac, nx⟩ := σ
  refine Met.ofW (cc := cX1_step) (maxL := 7) (ret := none) (by decide) rfl ?_
  intro p e s m args below meth c s₁ B hml hv
  obtain ⟨rfl, hsz, hP, hX, hD0⟩ := hv
  have hx := B.exec
  have hb := B.bytes
  have hr := B.returns
  have hts := atoms_spec (ws := wsX1_step) B.pre
  have hown : s.vm.findClass RX1 = some m.cls := findClass_of_methodNamed B.named
  have hlocks := B.notSynchronized
  have hK := hX.1
  have hinX1 : ∀ w ∈ wsX10, w ∈ wsX1_step := fun _ h => List.mem_cons_of_mem _ (List.mem_append_right _ h)
  have hinX0 : ∀ w ∈ wsX00, w ∈ wsX1_step := fun _ h => List.mem_cons_of_mem _ (List.mem_append_left _ (List.mem_append_right _ h))
  subst hsz
  have hD := hD0.self (sz := s.heap.size)
  generalize hAe : va_A (hfW A cI cQ _) s.heap.size = V at hD ⊢
  have hA : ∀ q : Nat, s.heap.size ≤ q → V q := fun q h => by rw [← hAe]; exact Or.inr h
  have hS : va_S V s.heap s.heap [] := va_S.rf
  have hl := lv_entry ([.ref (A 4), .ref (A (8 + a)), .int (nI d)]) (n := 7) (Nat.le_of_ble_eq_true rfl)
  rw [lg_entry_eq]
  generalize (lg_sl ([.ref (A 4), .ref (A (8 + a)), .int (nI d)]) ++ List.replicate (7 - (lg_sl ([.ref (A 4), .ref (A (8 + a)), .int (nI d)])).length) Slot.unset).toArray = ls at hl ⊢
  have hl : lv_has ls 7 [(0, .ref (A 4)), (1, .ref (A (8 + a))), (2, .int (nI d))] := hl
  have hP : va_P (dC, dI) vwCl (hfL A cI cQ cl st go hi ma ct tc be co ap tr ac nx) s.heap := hP
  have hD : va_D V (hfL A cI cQ cl st go hi ma ct tc be co ap tr ac nx) := hD
  refine lv_bipush (v := 16) hx hb dX1_step_0 (by decide) ?_
  refine lv_iload_n hx hb dX1_step_2 rfl (lv_at hl 2 rfl) ?_
  refine lv_imul hx hb dX1_step_3 ?_
  refine lv_topi (fun y0 ey0 => ?_)
  obtain rfl : y0 = nI (16 * d) := ey0.trans (pk_mul 16 d)
  refine lv_istore_n (lv' := [(3, .int (nI (16 * d))), (0, .ref (A 4)), (1, .ref (A (8 + a))), (2, .int (nI d))]) hx hb dX1_step_4 rfl hl (by decide) rfl (fun ls hl => ?_)
  refine lv_iconst (v := 0) hx hb dX1_step_5 (by decide) ?_
  refine lv_istore (lv' := [(4, .int 0), (3, .int (nI (16 * d))), (0, .ref (A 4)), (1, .ref (A (8 + a))), (2, .int (nI d))]) hx hb dX1_step_6 hl (by decide) rfl (fun ls hl => ?_)
  refine lv_iconst (v := 0) hx hb dX1_step_8 (by decide) ?_
  refine lv_istore (lv' := [(5, .int 0), (4, .int 0), (3, .int (nI (16 * d))), (0, .ref (A 4)), (1, .ref (A (8 + a))), (2, .int (nI d))]) hx hb dX1_step_9 hl (by decide) rfl (fun ls hl => ?_)
  refine w_loopH (pc := 11) 16 (fun k ls H locs => va_P (dC, dI) vwCl (hfL A cI cQ cl st go hi ma ct tc be (stpN co d (fun j => nI (y (x j))) k) ap tr ac nx) H ∧ va_D V (hfL A cI cQ cl st go hi ma ct tc be (stpN co d (fun j => nI (y (x j))) k) ap tr ac nx) ∧ va_S V s.heap H locs ∧ True ∧ lv_has ls 7 [(0, .ref (A 4)), (1, .ref (A (8 + a))), (2, .int (nI d)), (3, .int (nI (16 * d))), (4, .int (mkN (fun j => bt (ac a 2) (y (x j))) k)), (5, .int (nI k))]) ?_ 0 (Nat.zero_le _) ls _ _ ⟨?_, ?_, hS, trivial, lv_sub hl [3, 4, 5, 2, 1, 0] rfl⟩
  rotate_left
  · rw [stpN_0]; exact hP
  · rw [stpN_0]; exact hD
  intro k ls H locs hk hI ih
  obtain ⟨hP, hD, hS, hEx, hl⟩ := hI
  refine lv_iload hx hb dX1_step_11 (lv_at hl 5 rfl) ?_
  refine lv_bipush (v := 16) hx hb dX1_step_13 (by decide) ?_
  refine lv_icmp_ge (tgt := 68) hx hb dX1_step_15 (by decide) (fun c15_1 => ?_) (fun c15_1 => ?_)
  · skip
    obtain rfl := ctr_ge (N := 16) rfl (by decide) hk c15_1
    refine lv_iconst (v := 0) hx hb dX1_step_68 (by decide) ?_
    refine lv_istore (lv' := [(5, .int 0), (0, .ref (A 4)), (1, .ref (A (8 + a))), (2, .int (nI d)), (3, .int (nI (16 * d))), (4, .int (mk (fun j => bt (ac a 2) (y (x j)))))]) hx hb dX1_step_69 hl (by decide) rfl (fun ls hl => ?_)
    refine w_loopH (pc := 71) 16 (fun k ls H locs => va_P (dC, dI) vwCl (hfL A cI cQ cl st go hi ma ct tc be (stpN co d (fun j => nI (y (x j))) 16) (fillN ap (fun j => ap j ||| (if bt (mk (fun j => bt (ac a 2) (y (x j)))) j = true then (mk (fun j => bt (ac a 2) (y (x j)))) ^^^ (-1) else mk (fun j => bt (ac a 2) (y (x j))))) k) tr ac nx) H ∧ va_D V (hfL A cI cQ cl st go hi ma ct tc be (stpN co d (fun j => nI (y (x j))) 16) (fillN ap (fun j => ap j ||| (if bt (mk (fun j => bt (ac a 2) (y (x j)))) j = true then (mk (fun j => bt (ac a 2) (y (x j)))) ^^^ (-1) else mk (fun j => bt (ac a 2) (y (x j))))) k) tr ac nx) ∧ va_S V s.heap H locs ∧ True ∧ lv_has ls 7 [(0, .ref (A 4)), (1, .ref (A (8 + a))), (2, .int (nI d)), (3, .int (nI (16 * d))), (4, .int (mk (fun j => bt (ac a 2) (y (x j))))), (5, .int (nI k))]) ?_ 0 (Nat.zero_le _) ls _ _ ⟨?_, ?_, hS, trivial, lv_sub hl [1, 2, 3, 4, 5, 0] rfl⟩
    rotate_left
    · rw [fillN_0]; exact hP
    · rw [fillN_0]; exact hD
    intro k ls H locs hk hI ih
    obtain ⟨hP, hD, hS, hEx, hl⟩ := hI
    refine lv_iload hx hb dX1_step_71 (lv_at hl 5 rfl) ?_
    refine lv_bipush (v := 16) hx hb dX1_step_73 (by decide) ?_
    refine lv_icmp_ge (tgt := 113) hx hb dX1_step_75 (by decide) (fun c75_2 => ?_) (fun c75_2 => ?_)
    · skip
      obtain rfl := ctr_ge (N := 16) rfl (by decide) hk c75_2
      exact W.vret hx hb hr (fun t ht hW => ⟨⟨((cl, st, go, hi, ma), (ct, tc), (be, stpN co d (fun j => nI (y (x j))) 16, fillN ap (fun j => ap j ||| (if bt (mk (fun j => bt (ac a 2) (y (x j)))) j = true then (mk (fun j => bt (ac a 2) (y (x j)))) ^^^ (-1) else mk (fun j => bt (ac a 2) (y (x j))))) 16), tr, ac, nx), rfl, rfl, by rw [ht]; exact hP, hD⟩, hS.F ht⟩) hS.2.2 dX1_step_113
    · skip
      have hlt := ctr_lt (N := 16) rfl (by decide) hk c75_2
      refine lv_aload_n hx hb dX1_step_78 rfl (lv_at hl 0 rfl) ?_
      refine va_get (D := (dC, dI)) (ci := 1) (v := .ref (A 6)) (C := RX1) (T := TX1) (N := 3) hx hb hts hinX1 hown hK hP 4 rfl rfl 1 (by decide) (hts _ (List.mem_of_getElem? (i := 2) rfl)) (fun _ h9 => h9) rfl dX1_step_79 ?_
      refine lv_iload hx hb dX1_step_82 (lv_at hl 5 rfl) ?_
      refine lv_dup2_11 hx hb dX1_step_84 rfl rfl ?_
      refine va_iald hx hb hK hP 6 0 rfl rfl (vp_in_nI (show k < 16 by omega) (by decide)) dX1_step_85 ?_
      rw [nI_clamp (show k < 2 ^ 31 by have := (show k < 16 by omega); omega)]
      refine lv_topi (fun y3 ey3 => ?_)
      obtain rfl : y3 = ap k := ey3.trans (fillN_at _ _ (Nat.le_refl k))
      refine lv_iload hx hb dX1_step_86 (lv_at hl 5 rfl) ?_
      refine lv_iload hx hb dX1_step_88 (lv_at hl 4 rfl) ?_
      refine vp_callSi (va_Run.run (va_runSN (As := [.int (nI k), .int (mk (fun j => bt (ac a 2) (y (x j))))]) (rest := [.int (ap k), .int (nI k), .ref (A 6)]) ⟨hx, hb, hml, hown, hts⟩ (c_X3_isIn l (k := k) (by omega) (mk (fun j => bt (ac a 2) (y (x j))))) ⟨va_cnB (host := RX3) 2 hts gX1_step_X3_isIn_n31 rfl rfl rfl (hX.2.1 _ (List.mem_of_getElem? (i := 9) rfl)) (hts _ (List.mem_of_getElem? (i := 10) rfl)) (by decide +kernel) ⟨Nat.le_of_ble_eq_true rfl, Nat.le_of_ble_eq_true rfl⟩, hts _ (List.mem_of_getElem? (i := 9) rfl), trivial⟩ ⟨bl_T, fun U hU hW => ⟨rfl, trivial⟩⟩ rfl rfl hl.1 rfl (lv_room (Nat.le_of_ble_eq_true rfl)) dX1_step_90 ⟨Nat.zero_le _, Nat.zero_le _⟩)) (fun r er => ?_)
      subst er
      refine lv_if_eq (tgt := 103) hx hb dX1_step_93 (by decide) (fun c93_4 => ?_) (fun c93_4 => ?_)
      · skip
        refine lv_iload hx hb dX1_step_103 (lv_at hl 4 rfl) ?_
        refine lv_ior hx hb dX1_step_105 ?_
        refine va_iast hx hb hK hP hD hS 6 0 rfl rfl (vp_in_nI (show k < 16 by omega) (by decide)) dX1_step_106 (fun H locs hP hD hS => ?_)
        rw [nI_clamp (show k < 2 ^ 31 by have := (show k < 16 by omega); omega)] at hP hD
        rw [show upd (fillN ap (fun j => ap j ||| (if bt (mk (fun j => bt (ac a 2) (y (x j)))) j = true then (mk (fun j => bt (ac a 2) (y (x j)))) ^^^ (-1) else mk (fun j => bt (ac a 2) (y (x j))))) k) k ((ap k) ||| (mk (fun j => bt (ac a 2) (y (x j))))) = fillN ap (fun j => ap j ||| (if bt (mk (fun j => bt (ac a 2) (y (x j)))) j = true then (mk (fun j => bt (ac a 2) (y (x j)))) ^^^ (-1) else mk (fun j => bt (ac a 2) (y (x j))))) (k + 1) from fillN_s ap (fun j => ap j ||| (if bt (mk (fun j => bt (ac a 2) (y (x j)))) j = true then (mk (fun j => bt (ac a 2) (y (x j)))) ^^^ (-1) else mk (fun j => bt (ac a 2) (y (x j))))) k (by show _ = ap k ||| _; rw [if_neg (by rw [b2i_0.mp c93_4]; decide)])] at hP hD
        have hP : va_P (dC, dI) vwCl (hfL A cI cQ cl st go hi ma ct tc be (stpN co d (fun j => nI (y (x j))) 16) (fillN ap (fun j => ap j ||| (if bt (mk (fun j => bt (ac a 2) (y (x j)))) j = true then (mk (fun j => bt (ac a 2) (y (x j)))) ^^^ (-1) else mk (fun j => bt (ac a 2) (y (x j))))) (k + 1)) tr ac nx) H := hP
        have hD : va_D V (hfL A cI cQ cl st go hi ma ct tc be (stpN co d (fun j => nI (y (x j))) 16) (fillN ap (fun j => ap j ||| (if bt (mk (fun j => bt (ac a 2) (y (x j)))) j = true then (mk (fun j => bt (ac a 2) (y (x j)))) ^^^ (-1) else mk (fun j => bt (ac a 2) (y (x j))))) (k + 1)) tr ac nx) := hD
        obtain ⟨y5, ey5⟩ : ∃ y : Int32, y = (nI k) + 1 := ⟨_, rfl⟩
        refine lv_iinc (v := y5) (lv' := [(5, .int y5), (0, .ref (A 4)), (1, .ref (A (8 + a))), (2, .int (nI d)), (3, .int (nI (16 * d))), (4, .int (mk (fun j => bt (ac a 2) (y (x j)))))]) hx hb dX1_step_107 hl (k := 5) rfl (by rw [ey5]; rfl) (by decide) rfl (fun ls hl => ?_)
        obtain rfl : y5 = nI (k + 1) := ey5.trans (nI_1 k)
        refine lv_goto (tgt := 71) hx hb dX1_step_110 (by decide) ?_
        exact ih ls H locs ⟨hP, hD, hS, trivial, lv_sub hl [1, 2, 3, 4, 5, 0] rfl⟩ hlt
      · skip
        refine lv_iload hx hb dX1_step_96 (lv_at hl 4 rfl) ?_
        refine lv_iconst (v := (-1)) hx hb dX1_step_98 (by decide) ?_
        refine lv_ixor hx hb dX1_step_99 ?_
        refine lv_goto (tgt := 105) hx hb dX1_step_100 (by decide) ?_
        refine lv_ior hx hb dX1_step_105 ?_
        refine va_iast hx hb hK hP hD hS 6 0 rfl rfl (vp_in_nI (show k < 16 by omega) (by decide)) dX1_step_106 (fun H locs hP hD hS => ?_)
        rw [nI_clamp (show k < 2 ^ 31 by have := (show k < 16 by omega); omega)] at hP hD
        rw [show upd (fillN ap (fun j => ap j ||| (if bt (mk (fun j => bt (ac a 2) (y (x j)))) j = true then (mk (fun j => bt (ac a 2) (y (x j)))) ^^^ (-1) else mk (fun j => bt (ac a 2) (y (x j))))) k) k ((ap k) ||| ((mk (fun j => bt (ac a 2) (y (x j)))) ^^^ (-1))) = fillN ap (fun j => ap j ||| (if bt (mk (fun j => bt (ac a 2) (y (x j)))) j = true then (mk (fun j => bt (ac a 2) (y (x j)))) ^^^ (-1) else mk (fun j => bt (ac a 2) (y (x j))))) (k + 1) from fillN_s ap (fun j => ap j ||| (if bt (mk (fun j => bt (ac a 2) (y (x j)))) j = true then (mk (fun j => bt (ac a 2) (y (x j)))) ^^^ (-1) else mk (fun j => bt (ac a 2) (y (x j))))) k (by show _ = ap k ||| _; rw [if_pos (b2i_n0.mp c93_4)])] at hP hD
        have hP : va_P (dC, dI) vwCl (hfL A cI cQ cl st go hi ma ct tc be (stpN co d (fun j => nI (y (x j))) 16) (fillN ap (fun j => ap j ||| (if bt (mk (fun j => bt (ac a 2) (y (x j)))) j = true then (mk (fun j => bt (ac a 2) (y (x j)))) ^^^ (-1) else mk (fun j => bt (ac a 2) (y (x j))))) (k + 1)) tr ac nx) H := hP
        have hD : va_D V (hfL A cI cQ cl st go hi ma ct tc be (stpN co d (fun j => nI (y (x j))) 16) (fillN ap (fun j => ap j ||| (if bt (mk (fun j => bt (ac a 2) (y (x j)))) j = true then (mk (fun j => bt (ac a 2) (y (x j)))) ^^^ (-1) else mk (fun j => bt (ac a 2) (y (x j))))) (k + 1)) tr ac nx) := hD
        obtain ⟨y6, ey6⟩ : ∃ y : Int32, y = (nI k) + 1 := ⟨_, rfl⟩
        refine lv_iinc (v := y6) (lv' := [(5, .int y6), (0, .ref (A 4)), (1, .ref (A (8 + a))), (2, .int (nI d)), (3, .int (nI (16 * d))), (4, .int (mk (fun j => bt (ac a 2) (y (x j)))))]) hx hb dX1_step_107 hl (k := 5) rfl (by rw [ey6]; rfl) (by decide) rfl (fun ls hl => ?_)
        obtain rfl : y6 = nI (k + 1) := ey6.trans (nI_1 k)
        refine lv_goto (tgt := 71) hx hb dX1_step_110 (by decide) ?_
        exact ih ls H locs ⟨hP, hD, hS, trivial, lv_sub hl [1, 2, 3, 4, 5, 0] rfl⟩ hlt
  · skip
    have hlt := ctr_lt (N := 16) rfl (by decide) hk c15_1
    refine lv_aload_n hx hb dX1_step_18 rfl (lv_at hl 1 rfl) ?_
    refine va_getN (D := (dC, dI)) (host := RX3) (ci := 0) (v := .ref (A (16 + a))) (C := RX0) (T := TX0) (N := 5) hx hb hts hinX0 hown hK hP (8 + a) (hf_act ha) rfl 4 (by decide) (va_Nw.use rfl (hX.2.1 _ (List.mem_of_getElem? (i := 6) rfl))) (fun _ h9 => h9) rfl dX1_step_19 ?_
    refine lv_aload_n hx hb dX1_step_22 rfl (lv_at hl 0 rfl) ?_
    refine va_get (D := (dC, dI)) (ci := 1) (v := .ref (A 5)) (C := RX1) (T := TX1) (N := 3) hx hb hts hinX1 hown hK hP 4 rfl rfl 0 (by decide) (hts _ (List.mem_of_getElem? (i := 1) rfl)) (fun _ h9 => h9) rfl dX1_step_23 ?_
    refine lv_iload_n hx hb dX1_step_26 rfl (lv_at hl 3 rfl) ?_
    refine lv_iload hx hb dX1_step_27 (lv_at hl 5 rfl) ?_
    refine lv_iadd hx hb dX1_step_29 ?_
    refine lv_topi (fun y7 ey7 => ?_)
    obtain rfl : y7 = nI (16 * d + k) := ey7.trans (nI_add (16 * d) k)
    refine va_iald hx hb hK hP 5 0 rfl rfl (vp_in_nI (show (16 * d + k) < 64 by omega) (by decide)) dX1_step_30 ?_
    rw [nI_clamp (show (16 * d + k) < 2 ^ 31 by have := (show (16 * d + k) < 64 by omega); omega)]
    refine lv_topi (fun y8 ey8 => ?_)
    obtain rfl : y8 = nI (x k) := ey8.trans (by rw [stpN_lo _ _ _ (by omega)]; exact (hx1 k hlt).1)
    refine va_iald hx hb hK hP (16 + a) 0 (hf_nxt ha) rfl (vp_in_nI (show (x k) < 16 by exact (hx1 k hlt).2) (by decide)) dX1_step_31 ?_
    rw [nI_clamp (show (x k) < 2 ^ 31 by have := (show (x k) < 16 by exact (hx1 k hlt).2); omega)]
    refine lv_topi (fun y9 ey9 => ?_)
    obtain rfl : y9 = nI (y (x k)) := ey9.trans ((hy1 (x k) (hx1 k hlt).2).1)
    refine lv_istore (lv' := [(6, .int (nI (y (x k)))), (0, .ref (A 4)), (1, .ref (A (8 + a))), (2, .int (nI d)), (3, .int (nI (16 * d))), (4, .int (mkN (fun j => bt (ac a 2) (y (x j))) k)), (5, .int (nI k))]) hx hb dX1_step_32 hl (by decide) rfl (fun ls hl => ?_)
    refine lv_aload_n hx hb dX1_step_34 rfl (lv_at hl 1 rfl) ?_
    refine va_get (D := (dC, dI)) (ci := 1) (v := .ref (A 5)) (C := RX1) (T := TX1) (N := 3) hx hb hts hinX1 hown hK hP 4 rfl rfl 0 (by decide) (hts _ (List.mem_of_getElem? (i := 1) rfl)) (fun _ h9 => h9) rfl dX1_step_35 ?_
    refine lv_iload_n hx hb dX1_step_38 rfl (lv_at hl 4 rfl) ?_
    refine lv_bipush (v := 16) hx hb dX1_step_39 (by decide) ?_
    refine lv_iadd hx hb dX1_step_41 ?_
    refine lv_topi (fun y10 ey10 => ?_)
    obtain rfl : y10 = nI (16 * d + 16) := ey10.trans (nI_add (16 * d) 16)
    refine lv_iload hx hb dX1_step_42 (lv_at hl 6 rfl) ?_
    refine lv_iadd hx hb dX1_step_44 ?_
    refine lv_topi (fun y11 ey11 => ?_)
    obtain rfl : y11 = nI (16 * d + 16 + k) := ey11.trans (nI_add (16 * d + 16) k)
    refine lv_iload hx hb dX1_step_45 (lv_at hl 0 rfl) ?_
    refine va_iast hx hb hK hP hD hS 5 0 rfl rfl (vp_in_nI (show (16 * d + 16 + k) < 64 by omega) (by decide)) dX1_step_47 (fun H locs hP hD hS => ?_)
    rw [nI_clamp (show (16 * d + 16 + k) < 2 ^ 31 by have := (show (16 * d + 16 + k) < 64 by omega); omega)] at hP hD
    rw [show upd (stpN co d (fun j => nI (y (x j))) k) (16 * d + 16 + k) (nI (y (x k))) = stpN co d (fun j => nI (y (x j))) (k + 1) from stpN_s co d (fun j => nI (y (x j))) k rfl] at hP hD
    have hP : va_P (dC, dI) vwCl (hfL A cI cQ cl st go hi ma ct tc be (stpN co d (fun j => nI (y (x j))) (k + 1)) ap tr ac nx) H := hP
    have hD : va_D V (hfL A cI cQ cl st go hi ma ct tc be (stpN co d (fun j => nI (y (x j))) (k + 1)) ap tr ac nx) := hD
    refine lv_iload hx hb dX1_step_48 (lv_at hl 5 rfl) ?_
    refine lv_aload_n hx hb dX1_step_50 rfl (lv_at hl 2 rfl) ?_
    refine lv_iload hx hb dX1_step_51 (lv_at hl 0 rfl) ?_
    refine vp_callSi (W.runV (As := [.int (nI (y (x k)))]) (rest := [.int (mkN (fun j => bt (ac a 2) (y (x j))) k)]) ⟨hx, hb, hml, hown, hts⟩ (c_X0_sensed l dC dI A cI cQ ((cl, st, go, hi, ma), (ct, tc), (be, stpN co d (fun j => nI (y (x j))) (k + 1), ap), tr, ac, nx) ha (k := y (x k)) (hy1 (x k) (hx1 k hlt).2).2) (cwV 1 hts gX1_step_X0_sensed rfl rfl rfl (by decide +kernel) ⟨Nat.le_of_ble_eq_true rfl, Nat.le_of_ble_eq_true rfl⟩) ⟨bl_P, va_recv hK hP (ci := 0) (q0 := 8 + a) rfl (hf_act ha), fun U hU hW => ⟨rfl, by rw [hU]; exact hP, hX.warm hW⟩⟩ rfl rfl hl.1 rfl (lv_room (Nat.le_of_ble_eq_true rfl)) dX1_step_53 ⟨Nat.zero_le _, Nat.zero_le _⟩) (fun r er => ?_)
    subst er
    refine lv_iload hx hb dX1_step_56 (lv_at hl 6 rfl) ?_
    refine lv_ishl hx hb dX1_step_58 ?_
    refine lv_ior hx hb dX1_step_59 ?_
    refine lv_topi (fun y12 ey12 => ?_)
    obtain rfl : y12 = mkN (fun j => bt (ac a 2) (y (x j))) (k + 1) := ey12.trans (mkN_or (fun j => bt (ac a 2) (y (x j))) (by omega))
    refine lv_istore (lv' := [(4, .int (mkN (fun j => bt (ac a 2) (y (x j))) (k + 1))), (6, .int (nI (y (x k)))), (0, .ref (A 4)), (1, .ref (A (8 + a))), (2, .int (nI d)), (3, .int (nI (16 * d))), (5, .int (nI k))]) hx hb dX1_step_60 hl (by decide) rfl (fun ls hl => ?_)
    obtain ⟨y13, ey13⟩ : ∃ y : Int32, y = (nI k) + 1 := ⟨_, rfl⟩
    refine lv_iinc (v := y13) (lv' := [(5, .int y13), (4, .int (mkN (fun j => bt (ac a 2) (y (x j))) (k + 1))), (6, .int (nI (y (x k)))), (0, .ref (A 4)), (1, .ref (A (8 + a))), (2, .int (nI d)), (3, .int (nI (16 * d)))]) hx hb dX1_step_62 hl (k := 6) rfl (by rw [ey13]; rfl) (by decide) rfl (fun ls hl => ?_)
    obtain rfl : y13 = nI (k + 1) := ey13.trans (nI_1 k)
    refine lv_goto (tgt := 11) hx hb dX1_step_65 (by decide) ?_
    exact ih ls H locs ⟨hP, hD, hS, trivial, lv_sub hl [3, 4, 5, 6, 1, 0] rfl⟩ hlt
