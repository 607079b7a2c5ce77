set_option maxHeartbeats 4000000 in
set_option maxRecDepth 100000 in
/-- Tree.empty() -/
theorem c_X2_empty (l : Launch) (dC : Nat → ClassId) (dI : Nat → Nat → Nat) (A : Nat → Nat) (cI cQ : ClassId) (σ : HS) (sz : Nat) : Met l yX2_empty wsX2_empty ({ frames := 0, cells := 0, slots := 0, locals := 0 }) (va_Pc [.ref (A 2)] (hfF dC dI A cI cQ sz σ)) (va_Qv (fun τ : HS => τ = (σ.1, (0, tcS σ), σ.2.2)) (hfB dC dI A cI cQ (va_A (hfW A cI cQ σ) sz)) (va_A (hfW A cI cQ σ) sz)) 0 0 (va_A (hfW A cI cQ σ) sz) := by
  obtain ⟨⟨cl, st, go, hi, ma⟩, ⟨ct, tc⟩, ⟨be, co, ap⟩, tr, ac, nx⟩ := σ
  refine Met.ofW (cc := cX2_empty) (maxL := 1) (ret := none) (by decide) rfl ?_
  intro p e s m args below meth c s₁ B hml hv
  obtain ⟨rfl, hsz, hP, hX, hD0⟩ := hv
  have hx := B.exec
  have hb := B.bytes
  have hr := B.returns
  have hts := atoms_spec (ws := wsX2_empty) B.pre
  have hown : s.vm.findClass RX2 = some m.cls := findClass_of_methodNamed B.named
  have hlocks := B.notSynchronized
  have hK := hX.1
  have hinX2 : ∀ w ∈ wsX20, w ∈ wsX2_empty := fun _ h => List.mem_cons_of_mem _ (List.mem_append_right _ h)
  subst hsz
  have hD := hD0.self (sz := s.heap.size)
  generalize hAe : va_A (hfW A cI cQ _) s.heap.size = V at hD ⊢
  have hA : ∀ q : Nat, s.heap.size ≤ q → V q := fun q h => by rw [← hAe]; exact Or.inr h
  have hS : va_S V s.heap s.heap [] := va_S.rf
  have hl := lv_entry ([.ref (A 2)]) (n := 1) (Nat.le_of_ble_eq_true rfl)
  rw [lg_entry_eq]
  generalize (lg_sl ([.ref (A 2)]) ++ List.replicate (1 - (lg_sl ([.ref (A 2)])).length) Slot.unset).toArray = ls at hl ⊢
  have hl : lv_has ls 1 [(0, .ref (A 2))] := hl
  have hP : va_P (dC, dI) vwCl (hfL A cI cQ cl st go hi ma ct tc be co ap tr ac nx) s.heap := hP
  have hD : va_D V (hfL A cI cQ cl st go hi ma ct tc be co ap tr ac nx) := hD
  refine lv_aload_n hx hb dX2_empty_0 rfl (lv_at hl 0 rfl) ?_
  refine lv_iconst (v := 0) hx hb dX2_empty_1 (by decide) ?_
  refine va_put (D := (dC, dI)) (ci := 2) (v := .int 0) (ty := .int) (C := RX2) (T := TX2) (N := 2) hx hb hts hinX2 tyX2 tyX2_ok nmX2 hown hK hP hD hS 2 rfl rfl 1 (by decide) (hts _ (List.mem_of_getElem? (i := 1) rfl)) (fun _ h9 => h9) rfl (by decide +kernel) rfl rfl (Nat.le_of_ble_eq_true rfl) dX2_empty_2 (fun H locs hP hD hS => ?_)
  have hP : va_P (dC, dI) vwCl (hfL A cI cQ cl st go hi ma 0 tc be co ap tr ac nx) H := hP
  have hD : va_D V (hfL A cI cQ cl st go hi ma 0 tc be co ap tr ac nx) := hD
  exact W.vret hx hb hr (fun t ht hW => ⟨⟨((cl, st, go, hi, ma), (0, tc), (be, co, ap), tr, ac, nx), rfl, rfl, by rw [ht]; exact hP, hD⟩, hS.F ht⟩) hS.2.2 dX2_empty_5
set_option maxHeartbeats 4000000 in
set_option maxRecDepth 100000 in
/-- Tree.setAction(i, a) -/
theorem c_X2_setAction (l : Launch) (dC : Nat → ClassId) (dI : Nat → Nat → Nat) (A : Nat → Nat) (cI cQ : ClassId) (σ : HS) (sz : Nat) {i : Nat} (hi31 : i < 31) (x : Int32) : Met l yX2_setAction wsX2_setAction ({ frames := 0, cells := 0, slots := 0, locals := 0 }) (va_Pc [.ref (A 2), .int (nI i), .int x] (hfF dC dI A cI cQ sz σ)) (va_Qv (fun τ : HS => τ = (σ.1, (ctS σ, upd (tcS σ) (3 * i) x), σ.2.2)) (hfB dC dI A cI cQ (va_A (hfW A cI cQ σ) sz)) (va_A (hfW A cI cQ σ) sz)) 0 0 (va_A (hfW A cI cQ σ) sz) := by
  obtain ⟨⟨cl, st, go, hi, ma⟩, ⟨ct, tc⟩, ⟨be, co, ap⟩, tr, ac, nx⟩ := σ
  refine Met.ofW (cc := cX2_setAction) (maxL := 3) (ret := none) (by decide) rfl ?_
  intro p e s m args below meth c s₁ B hml hv
  obtain ⟨rfl, hsz, hP, hX, hD0⟩ := hv
  have hx := B.exec
  have hb := B.bytes
  have hr := B.returns
  have hts := atoms_spec (ws := wsX2_setAction) B.pre
  have hown : s.vm.findClass RX2 = some m.cls := findClass_of_methodNamed B.named
  have hlocks := B.notSynchronized
  have hK := hX.1
  have hinX2 : ∀ w ∈ wsX20, w ∈ wsX2_setAction := fun _ h => List.mem_cons_of_mem _ (List.mem_append_right _ h)
  subst hsz
  have hD := hD0.self (sz := s.heap.size)
  generalize hAe : va_A (hfW A cI cQ _) s.heap.size = V at hD ⊢
  have hA : ∀ q : Nat, s.heap.size ≤ q → V q := fun q h => by rw [← hAe]; exact Or.inr h
  have hS : va_S V s.heap s.heap [] := va_S.rf
  have hl := lv_entry ([.ref (A 2), .int (nI i), .int x]) (n := 3) (Nat.le_of_ble_eq_true rfl)
  rw [lg_entry_eq]
  generalize (lg_sl ([.ref (A 2), .int (nI i), .int x]) ++ List.replicate (3 - (lg_sl ([.ref (A 2), .int (nI i), .int x])).length) Slot.unset).toArray = ls at hl ⊢
  have hl : lv_has ls 3 [(0, .ref (A 2)), (1, .int (nI i)), (2, .int x)] := hl
  have hP : va_P (dC, dI) vwCl (hfL A cI cQ cl st go hi ma ct tc be co ap tr ac nx) s.heap := hP
  have hD : va_D V (hfL A cI cQ cl st go hi ma ct tc be co ap tr ac nx) := hD
  refine lv_aload_n hx hb dX2_setAction_0 rfl (lv_at hl 0 rfl) ?_
  refine va_get (D := (dC, dI)) (ci := 2) (v := .ref (A 3)) (C := RX2) (T := TX2) (N := 2) hx hb hts hinX2 hown hK hP 2 rfl rfl 0 (by decide) (hts _ (List.mem_of_getElem? (i := 1) rfl)) (fun _ h9 => h9) rfl dX2_setAction_1 ?_
  refine lv_iconst (v := 3) hx hb dX2_setAction_4 (by decide) ?_
  refine lv_iload_n hx hb dX2_setAction_5 rfl (lv_at hl 1 rfl) ?_
  refine lv_imul hx hb dX2_setAction_6 ?_
  refine lv_topi (fun y0 ey0 => ?_)
  obtain rfl : y0 = nI (3 * i) := ey0.trans (pk_mul 3 i)
  refine lv_iload_n hx hb dX2_setAction_7 rfl (lv_at hl 2 rfl) ?_
  refine va_iast hx hb hK hP hD hS 3 0 rfl rfl (vp_in_nI (show (3 * i) < 93 by omega) (by decide)) dX2_setAction_8 (fun H locs hP hD hS => ?_)
  rw [nI_clamp (show (3 * i) < 2 ^ 31 by have := (show (3 * i) < 93 by omega); omega)] at hP hD
  have hP : va_P (dC, dI) vwCl (hfL A cI cQ cl st go hi ma ct (upd tc (3 * i) x) be co ap tr ac nx) H := hP
  have hD : va_D V (hfL A cI cQ cl st go hi ma ct (upd tc (3 * i) x) be co ap tr ac nx) := hD
  exact W.vret hx hb hr (fun t ht hW => ⟨⟨((cl, st, go, hi, ma), (ct, upd tc (3 * i) x), (be, co, ap), tr, ac, nx), rfl, rfl, by rw [ht]; exact hP, hD⟩, hS.F ht⟩) hS.2.2 dX2_setAction_9
set_option maxHeartbeats 4000000 in
set_option maxRecDepth 100000 in
/-- Action.begin(condition, senses) -/
theorem c_X0_begin (l : Launch) (dC : Nat → ClassId) (dI : Nat → Nat → Nat) (A : Nat → Nat) (cI cQ : ClassId) (σ : HS) (sz : Nat) {a : Nat} (ha : a < 8) (cnd sen : Int32) : Met l yX0_begin wsX0_begin ({ frames := 0, cells := 0, slots := 0, locals := 0 }) (va_Pc [.ref (A (8 + a)), .int cnd, .int sen] (hfF dC dI A cI cQ sz σ)) (va_Qv (fun τ : HS => τ = (σ.1, σ.2.1, σ.2.2.1, trS σ, up2 (up2 (up2 (up2 (acS σ) a 0 1) a 1 cnd) a 2 sen) a 3 0, va_up (nxS σ) a (fillN (nxS σ a) (fun j => nI j) 16))) (hfB dC dI A cI cQ (va_A (hfW A cI cQ σ) sz)) (va_A (hfW A cI cQ σ) sz)) 0 0 (va_A (hfW A cI cQ σ) sz) := by
  obtain ⟨⟨cl, st, go, hi, ma⟩, ⟨ct, tc⟩, ⟨be, co, ap⟩, tr, ac, nx⟩ := σ
  refine Met.ofW (cc := cX0_begin) (maxL := 4) (ret := none) (by decide) rfl ?_
  intro p e s m args below meth c s₁ B hml hv
  obtain ⟨rfl, hsz, hP, hX, hD0⟩ := hv
  have hx := B.exec
  have hb := B.bytes
  have hr := B.returns
  have hts := atoms_spec (ws := wsX0_begin) B.pre
  have hown : s.vm.findClass RX0 = some m.cls := findClass_of_methodNamed B.named
  have hlocks := B.notSynchronized
  have hK := hX.1
  have hinX0 : ∀ w ∈ wsX00, w ∈ wsX0_begin := fun _ h => List.mem_cons_of_mem _ (List.mem_append_right _ h)
  subst hsz
  have hD := hD0.self (sz := s.heap.size)
  generalize hAe : va_A (hfW A cI cQ _) s.heap.size = V at hD ⊢
  have hA : ∀ q : Nat, s.heap.size ≤ q → V q := fun q h => by rw [← hAe]; exact Or.inr h
  have hS : va_S V s.heap s.heap [] := va_S.rf
  have hl := lv_entry ([.ref (A (8 + a)), .int cnd, .int sen]) (n := 4) (Nat.le_of_ble_eq_true rfl)
  rw [lg_entry_eq]
  generalize (lg_sl ([.ref (A (8 + a)), .int cnd, .int sen]) ++ List.replicate (4 - (lg_sl ([.ref (A (8 + a)), .int cnd, .int sen])).length) Slot.unset).toArray = ls at hl ⊢
  have hl : lv_has ls 4 [(0, .ref (A (8 + a))), (1, .int cnd), (2, .int sen)] := hl
  have hP : va_P (dC, dI) vwCl (hfL A cI cQ cl st go hi ma ct tc be co ap tr ac nx) s.heap := hP
  have hD : va_D V (hfL A cI cQ cl st go hi ma ct tc be co ap tr ac nx) := hD
  refine lv_aload_n hx hb dX0_begin_0 rfl (lv_at hl 0 rfl) ?_
  refine lv_iconst (v := 1) hx hb dX0_begin_1 (by decide) ?_
  refine va_put (D := (dC, dI)) (ci := 0) (v := .int 1) (ty := .boolean) (C := RX0) (T := TX0) (N := 5) hx hb hts hinX0 tyX0 tyX0_ok nmX0 hown hK hP hD hS (8 + a) (hf_act ha) rfl 0 (by decide) (hts _ (List.mem_of_getElem? (i := 1) rfl)) (fun _ h9 => h9) rfl (by decide +kernel) rfl rfl (Nat.le_of_ble_eq_true rfl) dX0_begin_2 (fun H locs hP hD hS => ?_)
  rw [hf_setA 0 (by decide) ha] at hP hD
  have hP : va_P (dC, dI) vwCl (hfL A cI cQ cl st go hi ma ct tc be co ap tr (up2 ac a 0 1) nx) H := hP
  have hD : va_D V (hfL A cI cQ cl st go hi ma ct tc be co ap tr (up2 ac a 0 1) nx) := hD
  refine lv_aload_n hx hb dX0_begin_5 rfl (lv_at hl 0 rfl) ?_
  refine lv_iload_n hx hb dX0_begin_6 rfl (lv_at hl 1 rfl) ?_
  refine va_put (D := (dC, dI)) (ci := 0) (v := .int cnd) (ty := .int) (C := RX0) (T := TX0) (N := 5) hx hb hts hinX0 tyX0 tyX0_ok nmX0 hown hK hP hD hS (8 + a) (hf_act ha) rfl 1 (by decide) (hts _ (List.mem_of_getElem? (i := 2) rfl)) (fun _ h9 => h9) rfl (by decide +kernel) rfl rfl (Nat.le_of_ble_eq_true rfl) dX0_begin_7 (fun H locs hP hD hS => ?_)
  rw [hf_setA 1 (by decide) ha] at hP hD
  have hP : va_P (dC, dI) vwCl (hfL A cI cQ cl st go hi ma ct tc be co ap tr (up2 (up2 ac a 0 1) a 1 cnd) nx) H := hP
  have hD : va_D V (hfL A cI cQ cl st go hi ma ct tc be co ap tr (up2 (up2 ac a 0 1) a 1 cnd) nx) := hD
  refine lv_aload_n hx hb dX0_begin_10 rfl (lv_at hl 0 rfl) ?_
  refine lv_iload_n hx hb dX0_begin_11 rfl (lv_at hl 2 rfl) ?_
  refine va_put (D := (dC, dI)) (ci := 0) (v := .int sen) (ty := .int) (C := RX0) (T := TX0) (N := 5) hx hb hts hinX0 tyX0 tyX0_ok nmX0 hown hK hP hD hS (8 + a) (hf_act ha) rfl 2 (by decide) (hts _ (List.mem_of_getElem? (i := 3) rfl)) (fun _ h9 => h9) rfl (by decide +kernel) rfl rfl (Nat.le_of_ble_eq_true rfl) dX0_begin_12 (fun H locs hP hD hS => ?_)
  rw [hf_setA 2 (by decide) ha] at hP hD
  have hP : va_P (dC, dI) vwCl (hfL A cI cQ cl st go hi ma ct tc be co ap tr (up2 (up2 (up2 ac a 0 1) a 1 cnd) a 2 sen) nx) H := hP
  have hD : va_D V (hfL A cI cQ cl st go hi ma ct tc be co ap tr (up2 (up2 (up2 ac a 0 1) a 1 cnd) a 2 sen) nx) := hD
  refine lv_aload_n hx hb dX0_begin_15 rfl (lv_at hl 0 rfl) ?_
  refine lv_iconst (v := 0) hx hb dX0_begin_16 (by decide) ?_
  refine va_put (D := (dC, dI)) (ci := 0) (v := .int 0) (ty := .int) (C := RX0) (T := TX0) (N := 5) hx hb hts hinX0 tyX0 tyX0_ok nmX0 hown hK hP hD hS (8 + a) (hf_act ha) rfl 3 (by decide) (hts _ (List.mem_of_getElem? (i := 4) rfl)) (fun _ h9 => h9) rfl (by decide +kernel) rfl rfl (Nat.le_of_ble_eq_true rfl) dX0_begin_17 (fun H locs hP hD hS => ?_)
  rw [hf_setA 3 (by decide) ha] at hP hD
  have hP : va_P (dC, dI) vwCl (hfL A cI cQ cl st go hi ma ct tc be co ap tr (up2 (up2 (up2 (up2 ac a 0 1) a 1 cnd) a 2 sen) a 3 0) nx) H := hP
  have hD : va_D V (hfL A cI cQ cl st go hi ma ct tc be co ap tr (up2 (up2 (up2 (up2 ac a 0 1) a 1 cnd) a 2 sen) a 3 0) nx) := hD
  refine lv_iconst (v := 0) hx hb dX0_begin_20 (by decide) ?_
  refine lv_istore_n (lv' := [(3, .int 0), (0, .ref (A (8 + a))), (1, .int cnd), (2, .int sen)]) hx hb dX0_begin_21 rfl hl (by decide) rfl (fun ls hl => ?_)
  refine w_loopH (pc := 22) 16 (fun k ls H locs => va_P (dC, dI) vwCl (hfL A cI cQ cl st go hi ma ct tc be co ap tr (up2 (up2 (up2 (up2 ac a 0 1) a 1 cnd) a 2 sen) a 3 0) (va_up nx a (fillN (nx a) (fun j => nI j) k))) H ∧ va_D V (hfL A cI cQ cl st go hi ma ct tc be co ap tr (up2 (up2 (up2 (up2 ac a 0 1) a 1 cnd) a 2 sen) a 3 0) (va_up nx a (fillN (nx a) (fun j => nI j) k))) ∧ va_S V s.heap H locs ∧ lv_has ls 4 [(0, .ref (A (8 + a))), (1, .int cnd), (2, .int sen), (3, .int (nI k))]) ?_ 0 (Nat.zero_le _) ls H locs ⟨?_, ?_, hS, lv_sub hl [1, 2, 3, 0] rfl⟩
  rotate_left
  · rw [fillN_0, va_up_id]; exact hP
  · rw [fillN_0, va_up_id]; exact hD
  intro k ls H locs hk hI ih
  obtain ⟨hP, hD, hS, hl⟩ := hI
  refine lv_iload_n hx hb dX0_begin_22 rfl (lv_at hl 3 rfl) ?_
  refine lv_bipush (v := 16) hx hb dX0_begin_23 (by decide) ?_
  refine lv_icmp_ge (tgt := 41) hx hb dX0_begin_25 (by decide) (fun c25_0 => ?_) (fun c25_0 => ?_)
  · skip
    obtain rfl := ctr_ge (N := 16) rfl (by decide) hk c25_0
    exact W.vret hx hb hr (fun t ht hW => ⟨⟨((cl, st, go, hi, ma), (ct, tc), (be, co, ap), tr, up2 (up2 (up2 (up2 ac a 0 1) a 1 cnd) a 2 sen) a 3 0, va_up nx a (fillN (nx a) (fun j => nI j) 16)), rfl, rfl, by rw [ht]; exact hP, hD⟩, hS.F ht⟩) hS.2.2 dX0_begin_41
  · skip
    have hlt := ctr_lt (N := 16) rfl (by decide) hk c25_0
    refine lv_aload_n hx hb dX0_begin_28 rfl (lv_at hl 0 rfl) ?_
    refine va_get (D := (dC, dI)) (ci := 0) (v := .ref (A (16 + a))) (C := RX0) (T := TX0) (N := 5) hx hb hts hinX0 hown hK hP (8 + a) (hf_act ha) rfl 4 (by decide) (hts _ (List.mem_of_getElem? (i := 5) rfl)) (fun _ h9 => h9) rfl dX0_begin_29 ?_
    refine lv_iload_n hx hb dX0_begin_32 rfl (lv_at hl 3 rfl) ?_
    refine lv_iload_n hx hb dX0_begin_33 rfl (lv_at hl 3 rfl) ?_
    refine va_iast hx hb hK hP hD hS (16 + a) 0 (hf_nxt ha) rfl (vp_in_nI (show k < 16 by omega) (by decide)) dX0_begin_34 (fun H locs hP hD hS => ?_)
    rw [nI_clamp (show k < 2 ^ 31 by have := (show k < 16 by omega); omega)] at hP hD
    rw [hf_setN ha] at hP hD
    rw [show va_up (va_up nx a (fillN (nx a) (fun j => nI j) k)) a (upd (va_up nx a (fillN (nx a) (fun j => nI j) k) a) k (nI k)) = va_up nx a (fillN (nx a) (fun j => nI j) (k + 1)) from by rw [va_up_self, fillN_s _ _ _ rfl, bx_uu]] at hP hD
    have hP : va_P (dC, dI) vwCl (hfL A cI cQ cl st go hi ma ct tc be co ap tr (up2 (up2 (up2 (up2 ac a 0 1) a 1 cnd) a 2 sen) a 3 0) (va_up nx a (fillN (nx a) (fun j => nI j) (k + 1)))) H := hP
    have hD : va_D V (hfL A cI cQ cl st go hi ma ct tc be co ap tr (up2 (up2 (up2 (up2 ac a 0 1) a 1 cnd) a 2 sen) a 3 0) (va_up nx a (fillN (nx a) (fun j => nI j) (k + 1)))) := hD
    obtain ⟨y1, ey1⟩ : ∃ y : Int32, y = (nI k) + 1 := ⟨_, rfl⟩
    refine lv_iinc (v := y1) (lv' := [(3, .int y1), (0, .ref (A (8 + a))), (1, .int cnd), (2, .int sen)]) hx hb dX0_begin_35 hl (k := 3) rfl (by rw [ey1]; rfl) (by decide) rfl (fun ls hl => ?_)
    obtain rfl : y1 = nI (k + 1) := ey1.trans (nI_1 k)
    refine lv_goto (tgt := 22) hx hb dX0_begin_38 (by decide) ?_
    exact ih ls H locs ⟨hP, hD, hS, lv_sub hl [1, 2, 3, 0] rfl⟩ hlt
set_option maxHeartbeats 4000000 in
set_option maxRecDepth 100000 in
/-- Action.addEffect(bit, makes, demand) -/
theorem c_X0_addEffect (l : Launch) (dC : Nat → ClassId) (dI : Nat → Nat → Nat) (A : Nat → Nat) (cI cQ : ClassId) (σ : HS) (sz : Nat) {a : Nat} (ha : a < 8) (x : Int32) (mk1 : Bool) (dem : Int32) : Met l yX0_addEffect wsX0_addEffect ({ frames := 1, cells := 0, slots := 0, locals := 21 }) (va_Pc [.ref (A (8 + a)), .int x, .int (b2i mk1), .int dem] (hfF dC dI A cI cQ sz σ)) (va_Qv (fun τ : HS => τ = (σ.1, σ.2.1, σ.2.2.1, trS σ, up2 (acS σ) a 3 (acS σ a 3 + 1), va_up (nxS σ) a (fillN (nxS σ a) (addG (nxS σ a) x mk1 dem) 16))) (hfB dC dI A cI cQ (va_A (hfW A cI cQ σ) sz)) (va_A (hfW A cI cQ σ) sz)) 0 0 (va_A (hfW A cI cQ σ) sz) := by
  obtain ⟨⟨cl, st, go, hi, ma⟩, ⟨ct, tc⟩, ⟨be, co, ap⟩, tr, ac, nx⟩ := σ
  refine Met.ofW (cc := cX0_addEffect) (maxL := 5) (ret := none) (by decide) rfl ?_
  intro p e s m args below meth c s₁ B hml hv
  obtain ⟨rfl, hsz, hP, hX, hD0⟩ := hv
  have hx := B.exec
  have hb := B.bytes
  have hr := B.returns
  have hts := atoms_spec (ws := wsX0_addEffect) B.pre
  have hown : s.vm.findClass RX0 = some m.cls := findClass_of_methodNamed B.named
  have hlocks := B.notSynchronized
  have hK := hX.1
  have hinX0 : ∀ w ∈ wsX00, w ∈ wsX0_addEffect := fun _ h => List.mem_cons_of_mem _ (List.mem_append_right _ h)
  subst hsz
  have hD := hD0.self (sz := s.heap.size)
  generalize hAe : va_A (hfW A cI cQ _) s.heap.size = V at hD ⊢
  have hA : ∀ q : Nat, s.heap.size ≤ q → V q := fun q h => by rw [← hAe]; exact Or.inr h
  have hS : va_S V s.heap s.heap [] := va_S.rf
  have hl := lv_entry ([.ref (A (8 + a)), .int x, .int (b2i mk1), .int dem]) (n := 5) (Nat.le_of_ble_eq_true rfl)
  rw [lg_entry_eq]
  generalize (lg_sl ([.ref (A (8 + a)), .int x, .int (b2i mk1), .int dem]) ++ List.replicate (5 - (lg_sl ([.ref (A (8 + a)), .int x, .int (b2i mk1), .int dem])).length) Slot.unset).toArray = ls at hl ⊢
  have hl : lv_has ls 5 [(0, .ref (A (8 + a))), (1, .int x), (2, .int (b2i mk1)), (3, .int dem)] := hl
  have hP : va_P (dC, dI) vwCl (hfL A cI cQ cl st go hi ma ct tc be co ap tr ac nx) s.heap := hP
  have hD : va_D V (hfL A cI cQ cl st go hi ma ct tc be co ap tr ac nx) := hD
  refine lv_iconst (v := 0) hx hb dX0_addEffect_0 (by decide) ?_
  refine lv_istore (lv' := [(4, .int 0), (0, .ref (A (8 + a))), (1, .int x), (2, .int (b2i mk1)), (3, .int dem)]) hx hb dX0_addEffect_1 hl (by decide) rfl (fun ls hl => ?_)
  refine w_loopH (pc := 3) 16 (fun k ls H locs => va_P (dC, dI) vwCl (hfL A cI cQ cl st go hi ma ct tc be co ap tr ac (va_up nx a (fillN (nx a) (addG (nx a) x mk1 dem) k))) H ∧ va_D V (hfL A cI cQ cl st go hi ma ct tc be co ap tr ac (va_up nx a (fillN (nx a) (addG (nx a) x mk1 dem) k))) ∧ va_S V s.heap H locs ∧ lv_has ls 5 [(0, .ref (A (8 + a))), (1, .int x), (2, .int (b2i mk1)), (3, .int dem), (4, .int (nI k))]) ?_ 0 (Nat.zero_le _) ls _ _ ⟨?_, ?_, hS, lv_sub hl [1, 2, 3, 4, 0] rfl⟩
  rotate_left
  · rw [fillN_0, va_up_id]; exact hP
  · rw [fillN_0, va_up_id]; exact hD
  intro k ls H locs hk hI ih
  obtain ⟨hP, hD, hS, hl⟩ := hI
  refine lv_iload hx hb dX0_addEffect_3 (lv_at hl 4 rfl) ?_
  refine lv_bipush (v := 16) hx hb dX0_addEffect_5 (by decide) ?_
  refine lv_icmp_ge (tgt := 59) hx hb dX0_addEffect_7 (by decide) (fun c7_0 => ?_) (fun c7_0 => ?_)
  · skip
    obtain rfl := ctr_ge (N := 16) rfl (by decide) hk c7_0
    refine lv_aload_n hx hb dX0_addEffect_59 rfl (lv_at hl 0 rfl) ?_
    refine lv_dup hx hb dX0_addEffect_60 rfl ?_
    refine va_get (D := (dC, dI)) (ci := 0) (v := .int (ac a 3)) (C := RX0) (T := TX0) (N := 5) hx hb hts hinX0 hown hK hP (8 + a) (hf_act ha) rfl 3 (by decide) (hts _ (List.mem_of_getElem? (i := 2) rfl)) (fun _ h9 => h9) rfl dX0_addEffect_61 ?_
    refine lv_iconst (v := 1) hx hb dX0_addEffect_64 (by decide) ?_
    refine lv_iadd hx hb dX0_addEffect_65 ?_
    refine va_put (D := (dC, dI)) (ci := 0) (v := .int ((ac a 3) + 1)) (ty := .int) (C := RX0) (T := TX0) (N := 5) hx hb hts hinX0 tyX0 tyX0_ok nmX0 hown hK hP hD hS (8 + a) (hf_act ha) rfl 3 (by decide) (hts _ (List.mem_of_getElem? (i := 2) rfl)) (fun _ h9 => h9) rfl (by decide +kernel) rfl rfl (Nat.le_of_ble_eq_true rfl) dX0_addEffect_66 (fun H locs hP hD hS => ?_)
    rw [hf_setA 3 (by decide) ha] at hP hD
    have hP : va_P (dC, dI) vwCl (hfL A cI cQ cl st go hi ma ct tc be co ap tr (up2 ac a 3 ((ac a 3) + 1)) (va_up nx a (fillN (nx a) (addG (nx a) x mk1 dem) 16))) H := hP
    have hD : va_D V (hfL A cI cQ cl st go hi ma ct tc be co ap tr (up2 ac a 3 ((ac a 3) + 1)) (va_up nx a (fillN (nx a) (addG (nx a) x mk1 dem) 16))) := hD
    exact W.vret hx hb hr (fun t ht hW => ⟨⟨((cl, st, go, hi, ma), (ct, tc), (be, co, ap), tr, up2 ac a 3 ((ac a 3) + 1), va_up nx a (fillN (nx a) (addG (nx a) x mk1 dem) 16)), rfl, rfl, by rw [ht]; exact hP, hD⟩, hS.F ht⟩) hS.2.2 dX0_addEffect_69
  · skip
    have hlt := ctr_lt (N := 16) rfl (by decide) hk c7_0
    refine lv_iload hx hb dX0_addEffect_10 (lv_at hl 4 rfl) ?_
    refine lv_iload_n hx hb dX0_addEffect_12 rfl (lv_at hl 3 rfl) ?_
    refine vp_callSi (va_Run.run (va_runSN (As := [.int (nI k), .int dem]) (rest := []) ⟨hx, hb, hml, hown, hts⟩ (c_X3_isIn l (k := k) (by omega) dem) ⟨va_cnB (host := RX3) 2 hts gX0_addEffect_X3_isIn_n29 rfl rfl rfl (hX.2.1 _ (List.mem_of_getElem? (i := 8) rfl)) (hts _ (List.mem_of_getElem? (i := 4) rfl)) (by decide +kernel) ⟨Nat.le_of_ble_eq_true rfl, Nat.le_of_ble_eq_true rfl⟩, hts _ (List.mem_of_getElem? (i := 3) rfl), trivial⟩ ⟨bl_T, fun U hU hW => ⟨rfl, trivial⟩⟩ rfl rfl hl.1 rfl (lv_room (Nat.le_of_ble_eq_true rfl)) dX0_addEffect_13 ⟨Nat.zero_le _, Nat.zero_le _⟩)) (fun r er => ?_)
    subst er
    refine lv_if_eq (tgt := 53) hx hb dX0_addEffect_16 (by decide) (fun c16_1 => ?_) (fun c16_1 => ?_)
    · skip
      obtain ⟨y2, ey2⟩ : ∃ y : Int32, y = (nI k) + 1 := ⟨_, rfl⟩
      refine lv_iinc (v := y2) (lv' := [(4, .int y2), (0, .ref (A (8 + a))), (1, .int x), (2, .int (b2i mk1)), (3, .int dem)]) hx hb dX0_addEffect_53 hl (k := 4) rfl (by rw [ey2]; rfl) (by decide) rfl (fun ls hl => ?_)
      obtain rfl : y2 = nI (k + 1) := ey2.trans (nI_1 k)
      refine lv_goto (tgt := 3) hx hb dX0_addEffect_56 (by decide) ?_
      exact ih ls H locs ⟨by rw [← fillN_s (nx a) (addG (nx a) x mk1 dem) k (x := nx a k) (by unfold addG; rw [if_neg (by rw [b2i_0.mp c16_1]; decide)]), fillN_same]; exact hP, by rw [← fillN_s (nx a) (addG (nx a) x mk1 dem) k (x := nx a k) (by unfold addG; rw [if_neg (by rw [b2i_0.mp c16_1]; decide)]), fillN_same]; exact hD, hS, lv_sub hl [1, 2, 3, 4, 0] rfl⟩ hlt
    · skip
      refine lv_aload_n hx hb dX0_addEffect_19 rfl (lv_at hl 0 rfl) ?_
      refine va_get (D := (dC, dI)) (ci := 0) (v := .ref (A (16 + a))) (C := RX0) (T := TX0) (N := 5) hx hb hts hinX0 hown hK hP (8 + a) (hf_act ha) rfl 4 (by decide) (hts _ (List.mem_of_getElem? (i := 1) rfl)) (fun _ h9 => h9) rfl dX0_addEffect_20 ?_
      refine lv_iload hx hb dX0_addEffect_23 (lv_at hl 4 rfl) ?_
      refine lv_iload_n hx hb dX0_addEffect_25 rfl (lv_at hl 2 rfl) ?_
      refine lv_if_eq (tgt := 41) hx hb dX0_addEffect_26 (by decide) (fun c26_3 => ?_) (fun c26_3 => ?_)
      · skip
        refine lv_aload_n hx hb dX0_addEffect_41 rfl (lv_at hl 0 rfl) ?_
        refine va_get (D := (dC, dI)) (ci := 0) (v := .ref (A (16 + a))) (C := RX0) (T := TX0) (N := 5) hx hb hts hinX0 hown hK hP (8 + a) (hf_act ha) rfl 4 (by decide) (hts _ (List.mem_of_getElem? (i := 1) rfl)) (fun _ h9 => h9) rfl dX0_addEffect_42 ?_
        refine lv_iload hx hb dX0_addEffect_45 (lv_at hl 4 rfl) ?_
        refine va_iald hx hb hK hP (16 + a) 0 (hf_nxt ha) rfl (vp_in_nI (show k < 16 by omega) (by decide)) dX0_addEffect_47 ?_
        rw [nI_clamp (show k < 2 ^ 31 by have := (show k < 16 by omega); omega)]
        refine lv_topi (fun y4 ey4 => ?_)
        obtain rfl : y4 = nx a k := ey4.trans (by rw [va_up_self, fillN_at _ _ (Nat.le_refl k)])
        refine lv_iload_n hx hb dX0_addEffect_48 rfl (lv_at hl 1 rfl) ?_
        refine lv_iconst (v := (-1)) hx hb dX0_addEffect_49 (by decide) ?_
        refine lv_ixor hx hb dX0_addEffect_50 ?_
        refine lv_iand hx hb dX0_addEffect_51 ?_
        refine va_iast hx hb hK hP hD hS (16 + a) 0 (hf_nxt ha) rfl (vp_in_nI (show k < 16 by omega) (by decide)) dX0_addEffect_52 (fun H locs hP hD hS => ?_)
        rw [nI_clamp (show k < 2 ^ 31 by have := (show k < 16 by omega); omega)] at hP hD
        rw [hf_setN ha] at hP hD
        rw [show va_up (va_up nx a (fillN (nx a) (addG (nx a) x mk1 dem) k)) a (upd (va_up nx a (fillN (nx a) (addG (nx a) x mk1 dem) k) a) k ((nx a k) &&& (x ^^^ (-1)))) = va_up nx a (fillN (nx a) (addG (nx a) x mk1 dem) (k + 1)) from by rw [va_up_self, fillN_s _ _ _ (by unfold addG; rw [if_pos (b2i_n0.mp c16_1), if_neg (by rw [b2i_0.mp c26_3]; decide)]), bx_uu]] at hP hD
        have hP : va_P (dC, dI) vwCl (hfL A cI cQ cl st go hi ma ct tc be co ap tr ac (va_up nx a (fillN (nx a) (addG (nx a) x mk1 dem) (k + 1)))) H := hP
        have hD : va_D V (hfL A cI cQ cl st go hi ma ct tc be co ap tr ac (va_up nx a (fillN (nx a) (addG (nx a) x mk1 dem) (k + 1)))) := hD
        obtain ⟨y5, ey5⟩ : ∃ y : Int32, y = (nI k) + 1 := ⟨_, rfl⟩
        refine lv_iinc (v := y5) (lv' := [(4, .int y5), (0, .ref (A (8 + a))), (1, .int x), (2, .int (b2i mk1)), (3, .int dem)]) hx hb dX0_addEffect_53 hl (k := 4) rfl (by rw [ey5]; rfl) (by decide) rfl (fun ls hl => ?_)
        obtain rfl : y5 = nI (k + 1) := ey5.trans (nI_1 k)
        refine lv_goto (tgt := 3) hx hb dX0_addEffect_56 (by decide) ?_
        exact ih ls H locs ⟨hP, hD, hS, lv_sub hl [1, 2, 3, 4, 0] rfl⟩ hlt
      · skip
        refine lv_aload_n hx hb dX0_addEffect_29 rfl (lv_at hl 0 rfl) ?_
        refine va_get (D := (dC, dI)) (ci := 0) (v := .ref (A (16 + a))) (C := RX0) (T := TX0) (N := 5) hx hb hts hinX0 hown hK hP (8 + a) (hf_act ha) rfl 4 (by decide) (hts _ (List.mem_of_getElem? (i := 1) rfl)) (fun _ h9 => h9) rfl dX0_addEffect_30 ?_
        refine lv_iload hx hb dX0_addEffect_33 (lv_at hl 4 rfl) ?_
        refine va_iald hx hb hK hP (16 + a) 0 (hf_nxt ha) rfl (vp_in_nI (show k < 16 by omega) (by decide)) dX0_addEffect_35 ?_
        rw [nI_clamp (show k < 2 ^ 31 by have := (show k < 16 by omega); omega)]
        refine lv_topi (fun y6 ey6 => ?_)
        obtain rfl : y6 = nx a k := ey6.trans (by rw [va_up_self, fillN_at _ _ (Nat.le_refl k)])
        refine lv_iload_n hx hb dX0_addEffect_36 rfl (lv_at hl 1 rfl) ?_
        refine lv_ior hx hb dX0_addEffect_37 ?_
        refine lv_goto (tgt := 52) hx hb dX0_addEffect_38 (by decide) ?_
        refine va_iast hx hb hK hP hD hS (16 + a) 0 (hf_nxt ha) rfl (vp_in_nI (show k < 16 by omega) (by decide)) dX0_addEffect_52 (fun H locs hP hD hS => ?_)
        rw [nI_clamp (show k < 2 ^ 31 by have := (show k < 16 by omega); omega)] at hP hD
        rw [hf_setN ha] at hP hD
        rw [show va_up (va_up nx a (fillN (nx a) (addG (nx a) x mk1 dem) k)) a (upd (va_up nx a (fillN (nx a) (addG (nx a) x mk1 dem) k) a) k ((nx a k) ||| x)) = va_up nx a (fillN (nx a) (addG (nx a) x mk1 dem) (k + 1)) from by rw [va_up_self, fillN_s _ _ _ (by unfold addG; rw [if_pos (b2i_n0.mp c16_1), if_pos (b2i_n0.mp c26_3)]), bx_uu]] at hP hD
        have hP : va_P (dC, dI) vwCl (hfL A cI cQ cl st go hi ma ct tc be co ap tr ac (va_up nx a (fillN (nx a) (addG (nx a) x mk1 dem) (k + 1)))) H := hP
        have hD : va_D V (hfL A cI cQ cl st go hi ma ct tc be co ap tr ac (va_up nx a (fillN (nx a) (addG (nx a) x mk1 dem) (k + 1)))) := hD
        obtain ⟨y7, ey7⟩ : ∃ y : Int32, y = (nI k) + 1 := ⟨_, rfl⟩
        refine lv_iinc (v := y7) (lv' := [(4, .int y7), (0, .ref (A (8 + a))), (1, .int x), (2, .int (b2i mk1)), (3, .int dem)]) hx hb dX0_addEffect_53 hl (k := 4) rfl (by rw [ey7]; rfl) (by decide) rfl (fun ls hl => ?_)
        obtain rfl : y7 = nI (k + 1) := ey7.trans (nI_1 k)
        refine lv_goto (tgt := 3) hx hb dX0_addEffect_56 (by decide) ?_
        exact ih ls H locs ⟨hP, hD, hS, lv_sub hl [1, 2, 3, 4, 0] rfl⟩ hlt
