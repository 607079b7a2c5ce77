set_option maxHeartbeats 4000000 in
set_option maxRecDepth 100000 in
/-- within -/
theorem m_within (l : Launch) (x lo hi : Int32) : Met l yX4_within wsX4_within ({ frames := 0, cells := 0, slots := 0, locals := 0 }) (va_Pc [.int x, .int lo, .int hi] (fun _ => True)) (vp_Si (fun r => r = b2i (wiB x lo hi))) 0 0 (fun _ => False) := by
  refine Met.ofW (cc := cX4_within) (maxL := 3) (ret := (some .boolean)) (by decide) rfl ?_
  intro p e s m args below meth c s₁ B hml hv
  obtain ⟨rfl, -⟩ := hv
  have hx := B.exec
  have hb := B.bytes
  have hr := B.returns
  have hts := atoms_spec (ws := wsX4_within) B.pre
  have hown : s.vm.findClass RX4 = some m.cls := findClass_of_methodNamed B.named
  have hlocks := B.notSynchronized
  have hl := lv_entry ([.int x, .int lo, .int hi]) (n := 3) (Nat.le_of_ble_eq_true rfl)
  rw [lg_entry_eq]
  generalize (lg_sl ([.int x, .int lo, .int hi]) ++ List.replicate (3 - (lg_sl ([.int x, .int lo, .int hi])).length) Slot.unset).toArray = ls at hl ⊢
  have hl : lv_has ls 3 [(0, .int x), (1, .int lo), (2, .int hi)] := hl
  refine lv_iload_n hx hb dX4_within_0 rfl (lv_at hl 0 rfl) ?_
  refine lv_iload_n hx hb dX4_within_1 rfl (lv_at hl 1 rfl) ?_
  refine lv_icmp_lt (tgt := 14) hx hb dX4_within_2 (by decide) (fun c2_0 => ?_) (fun c2_0 => ?_)
  · skip
    refine lv_iconst (v := 0) hx hb dX4_within_14 (by decide) ?_
    exact W.zret hx hb hr rfl (fun t ht hW => ⟨_, rfl, by show _ = b2i (_ && _); rw [decide_eq_false (Int32.not_le.mpr c2_0)]; rfl, ht⟩) (fun q h => nomatch h) dX4_within_15
  · skip
    refine lv_iload_n hx hb dX4_within_5 rfl (lv_at hl 0 rfl) ?_
    refine lv_iload_n hx hb dX4_within_6 rfl (lv_at hl 2 rfl) ?_
    refine lv_icmp_gt (tgt := 14) hx hb dX4_within_7 (by decide) (fun c7_1 => ?_) (fun c7_1 => ?_)
    · skip
      refine lv_iconst (v := 0) hx hb dX4_within_14 (by decide) ?_
      exact W.zret hx hb hr rfl (fun t ht hW => ⟨_, rfl, by show _ = b2i (_ && _); rw [decide_eq_true (Int32.not_lt.mp c2_0), decide_eq_false (Int32.not_le.mpr c7_1)]; rfl, ht⟩) (fun q h => nomatch h) dX4_within_15
    · skip
      refine lv_iconst (v := 1) hx hb dX4_within_10 (by decide) ?_
      refine lv_goto (tgt := 15) hx hb dX4_within_11 (by decide) ?_
      exact W.zret hx hb hr rfl (fun t ht hW => ⟨_, rfl, by show _ = b2i (_ && _); rw [decide_eq_true (Int32.not_lt.mp c2_0), decide_eq_true (Int32.not_lt.mp c7_1)]; rfl, ht⟩) (fun q h => nomatch h) dX4_within_15
set_option maxHeartbeats 4000000 in
set_option maxRecDepth 100000 in
/-- demand -/
theorem m_demand (l : Launch) (mm vv : Int32) : Met l yX4_demand wsX4_demand ({ frames := 1, cells := 0, slots := 0, locals := 22 }) (va_Pc [.int mm, .int vv] (fun _ => True)) (vp_Si (fun r => r = b2i (dmB mm vv))) 0 0 (fun _ => False) := by
  refine Met.ofW (cc := cX4_demand) (maxL := 2) (ret := (some .boolean)) (by decide) rfl ?_
  intro p e s m args below meth c s₁ B hml hv
  obtain ⟨rfl, -⟩ := hv
  have hx := B.exec
  have hb := B.bytes
  have hr := B.returns
  have hts := atoms_spec (ws := wsX4_demand) B.pre
  have hown : s.vm.findClass RX4 = some m.cls := findClass_of_methodNamed B.named
  have hlocks := B.notSynchronized
  have hl := lv_entry ([.int mm, .int vv]) (n := 2) (Nat.le_of_ble_eq_true rfl)
  rw [lg_entry_eq]
  generalize (lg_sl ([.int mm, .int vv]) ++ List.replicate (2 - (lg_sl ([.int mm, .int vv])).length) Slot.unset).toArray = ls at hl ⊢
  have hl : lv_has ls 2 [(0, .int mm), (1, .int vv)] := hl
  refine lv_iload_n hx hb dX4_demand_0 rfl (lv_at hl 0 rfl) ?_
  refine lv_iconst (v := 0) hx hb dX4_demand_1 (by decide) ?_
  refine lv_bipush (v := 15) hx hb dX4_demand_2 (by decide) ?_
  refine vp_callSi (W.runS (As := [.int mm, .int 0, .int 15]) (rest := []) ⟨hx, hb, hml, hown, hts⟩ (m_within l mm 0 15) (va_cwS 3 hts gX4_demand_X4_within rfl rfl rfl (by decide +kernel) ⟨Nat.le_of_ble_eq_true rfl, Nat.le_of_ble_eq_true rfl⟩) ⟨bl_T, fun U hU hW => ⟨rfl, trivial⟩⟩ rfl rfl hl.1 rfl (lv_room (Nat.le_of_ble_eq_true rfl)) dX4_demand_4 ⟨Nat.zero_le _, Nat.zero_le _⟩) (fun r er => ?_)
  obtain rfl : r = b2i (wiB mm 0 15) := er
  refine lv_if_eq (tgt := 24) hx hb dX4_demand_7 (by decide) (fun c7_0 => ?_) (fun c7_0 => ?_)
  · skip
    refine lv_iconst (v := 0) hx hb dX4_demand_24 (by decide) ?_
    exact W.zret hx hb hr rfl (fun t ht hW => ⟨_, rfl, by show _ = b2i (_ && _); rw [b2i_0.mp c7_0]; rfl, ht⟩) (fun q h => nomatch h) dX4_demand_25
  · skip
    refine lv_iload_n hx hb dX4_demand_10 rfl (lv_at hl 1 rfl) ?_
    refine lv_iconst (v := 0) hx hb dX4_demand_11 (by decide) ?_
    refine lv_bipush (v := 15) hx hb dX4_demand_12 (by decide) ?_
    refine vp_callSi (W.runS (As := [.int vv, .int 0, .int 15]) (rest := []) ⟨hx, hb, hml, hown, hts⟩ (m_within l vv 0 15) (va_cwS 3 hts gX4_demand_X4_within rfl rfl rfl (by decide +kernel) ⟨Nat.le_of_ble_eq_true rfl, Nat.le_of_ble_eq_true rfl⟩) ⟨bl_T, fun U hU hW => ⟨rfl, trivial⟩⟩ rfl rfl hl.1 rfl (lv_room (Nat.le_of_ble_eq_true rfl)) dX4_demand_14 ⟨Nat.zero_le _, Nat.zero_le _⟩) (fun r er => ?_)
    obtain rfl : r = b2i (wiB vv 0 15) := er
    refine lv_if_eq (tgt := 24) hx hb dX4_demand_17 (by decide) (fun c17_1 => ?_) (fun c17_1 => ?_)
    · skip
      refine lv_iconst (v := 0) hx hb dX4_demand_24 (by decide) ?_
      exact W.zret hx hb hr rfl (fun t ht hW => ⟨_, rfl, by show _ = b2i (_ && _); rw [b2i_n0.mp c7_0, b2i_0.mp c17_1]; rfl, ht⟩) (fun q h => nomatch h) dX4_demand_25
    · skip
      refine lv_iconst (v := 1) hx hb dX4_demand_20 (by decide) ?_
      refine lv_goto (tgt := 25) hx hb dX4_demand_21 (by decide) ?_
      exact W.zret hx hb hr rfl (fun t ht hW => ⟨_, rfl, by show _ = b2i (_ && _); rw [b2i_n0.mp c7_0, b2i_n0.mp c17_1]; rfl, ht⟩) (fun q h => nomatch h) dX4_demand_25
set_option maxHeartbeats 4000000 in
set_option maxRecDepth 100000 in
/-- holds -/
theorem m_holds (l : Launch) (mm vv : Int32) (k : Nat) : Met l yX4_holds wsX4_holds ({ frames := 0, cells := 0, slots := 0, locals := 0 }) (va_Pc [.int mm, .int vv, .int (nI k)] (fun _ => True)) (vp_Si (fun r => r = b2i (demF mm vv k))) 0 0 (fun _ => False) := by
  refine Met.ofW (cc := cX4_holds) (maxL := 3) (ret := (some .boolean)) (by decide) rfl ?_
  intro p e s m args below meth c s₁ B hml hv
  obtain ⟨rfl, -⟩ := hv
  have hx := B.exec
  have hb := B.bytes
  have hr := B.returns
  have hts := atoms_spec (ws := wsX4_holds) B.pre
  have hown : s.vm.findClass RX4 = some m.cls := findClass_of_methodNamed B.named
  have hlocks := B.notSynchronized
  have hl := lv_entry ([.int mm, .int vv, .int (nI k)]) (n := 3) (Nat.le_of_ble_eq_true rfl)
  rw [lg_entry_eq]
  generalize (lg_sl ([.int mm, .int vv, .int (nI k)]) ++ List.replicate (3 - (lg_sl ([.int mm, .int vv, .int (nI k)])).length) Slot.unset).toArray = ls at hl ⊢
  have hl : lv_has ls 3 [(0, .int mm), (1, .int vv), (2, .int (nI k))] := hl
  refine lv_iload_n hx hb dX4_holds_0 rfl (lv_at hl 2 rfl) ?_
  refine lv_iload_n hx hb dX4_holds_1 rfl (lv_at hl 0 rfl) ?_
  refine lv_iand hx hb dX4_holds_2 ?_
  refine lv_iload_n hx hb dX4_holds_3 rfl (lv_at hl 1 rfl) ?_
  refine lv_iload_n hx hb dX4_holds_4 rfl (lv_at hl 0 rfl) ?_
  refine lv_iand hx hb dX4_holds_5 ?_
  refine lv_icmp_ne (tgt := 13) hx hb dX4_holds_6 (by decide) (fun c6_0 => ?_) (fun c6_0 => ?_)
  · skip
    refine lv_iconst (v := 0) hx hb dX4_holds_13 (by decide) ?_
    exact W.zret hx hb hr rfl (fun t ht hW => ⟨_, rfl, by show _ = b2i (decide _); rw [decide_eq_false c6_0]; rfl, ht⟩) (fun q h => nomatch h) dX4_holds_14
  · skip
    refine lv_iconst (v := 1) hx hb dX4_holds_9 (by decide) ?_
    refine lv_goto (tgt := 14) hx hb dX4_holds_10 (by decide) ?_
    exact W.zret hx hb hr rfl (fun t ht hW => ⟨_, rfl, by show _ = b2i (decide _); rw [decide_eq_true c6_0]; rfl, ht⟩) (fun q h => nomatch h) dX4_holds_14
set_option maxHeartbeats 4000000 in
set_option maxRecDepth 100000 in
/-- thrown -/
theorem m_thrown (l : Launch) (dC : Nat → ClassId) (dI : Nat → Nat → Nat) (AB : Nat → Nat) (cI cZ : ClassId) (τ : MS) : Met l yX4_thrown wsX4_thrown ({ frames := 0, cells := 0, slots := 0, locals := 0 }) (va_Pc [.ref (AB 0)] (mP dC dI AB cI cZ τ)) (vp_Si (fun r => r = τ.1 0)) 0 0 (fun _ => False) := by
  refine Met.ofW (cc := cX4_thrown) (maxL := 1) (ret := (some .int)) (by decide) rfl ?_
  intro p e s m args below meth c s₁ B hml hv
  obtain ⟨rfl, hP, hK⟩ := hv
  have hx := B.exec
  have hb := B.bytes
  have hr := B.returns
  have hts := atoms_spec (ws := wsX4_thrown) B.pre
  have hown : s.vm.findClass RX4 = some m.cls := findClass_of_methodNamed B.named
  have hlocks := B.notSynchronized
  have hinX4 : ∀ w ∈ wsX40, w ∈ wsX4_thrown := fun _ h => List.mem_cons_of_mem _ (List.mem_append_right _ h)
  have hl := lv_entry ([.ref (AB 0)]) (n := 1) (Nat.le_of_ble_eq_true rfl)
  rw [lg_entry_eq]
  generalize (lg_sl ([.ref (AB 0)]) ++ List.replicate (1 - (lg_sl ([.ref (AB 0)])).length) Slot.unset).toArray = ls at hl ⊢
  have hl : lv_has ls 1 [(0, .ref (AB 0))] := hl
  refine lv_aload_n hx hb dX4_thrown_0 rfl (lv_at hl 0 rfl) ?_
  refine va_get (D := (dC, dI)) (ci := 4) (v := .int (τ.1 0)) (C := RX4) (T := TX4) (N := 33) hx hb hts hinX4 hown hK hP 0 rfl rfl 0 (by decide) (hts _ (List.mem_of_getElem? (i := 1) rfl)) (fun _ h9 => h9) rfl dX4_thrown_1 ?_
  exact W.iret hx hb hr (fun t ht hW => ⟨_, rfl, rfl, ht⟩) (fun q h => nomatch h) dX4_thrown_4
set_option maxHeartbeats 4000000 in
set_option maxRecDepth 100000 in
/-- fail -/
theorem m_fail (l : Launch) (dC : Nat → ClassId) (dI : Nat → Nat → Nat) (AB : Nat → Nat) (cI cZ : ClassId) (τ : MS) (sz : Nat) (x : Int32) : Met l yX4_fail wsX4_fail ({ frames := 0, cells := 0, slots := 0, locals := 0 }) (va_Pc [.ref (AB 0), .int x] (mF dC dI AB cI cZ sz τ)) (va_Qi (fun (r : Int32) (τ2 : MS) => r = 0 ∧ τ2 = (va_up τ.1 0 x, τ.2)) (mB dC dI AB cI cZ (va_A (mW AB cI cZ τ) sz)) (va_A (mW AB cI cZ τ) sz)) 0 0 (va_A (mW AB cI cZ τ) sz) := by
  obtain ⟨sc, ar⟩ := τ
  refine Met.ofW (cc := cX4_fail) (maxL := 2) (ret := (some .int)) (by decide) rfl ?_
  intro p e s m args below meth c s₁ B hml hv
  obtain ⟨rfl, hsz, hP, hK, hD0⟩ := hv
  have hx := B.exec
  have hb := B.bytes
  have hr := B.returns
  have hts := atoms_spec (ws := wsX4_fail) B.pre
  have hown : s.vm.findClass RX4 = some m.cls := findClass_of_methodNamed B.named
  have hlocks := B.notSynchronized
  have hinX4 : ∀ w ∈ wsX40, w ∈ wsX4_fail := fun _ h => List.mem_cons_of_mem _ (List.mem_append_right _ h)
  subst hsz
  have hD := hD0.self (sz := s.heap.size)
  generalize hAe : va_A (mW AB cI cZ _) s.heap.size = V at hD ⊢
  have hA : ∀ q : Nat, s.heap.size ≤ q → V q := fun q h => by rw [← hAe]; exact Or.inr h
  have hS : va_S V s.heap s.heap [] := va_S.rf
  have hl := lv_entry ([.ref (AB 0), .int x]) (n := 2) (Nat.le_of_ble_eq_true rfl)
  rw [lg_entry_eq]
  generalize (lg_sl ([.ref (AB 0), .int x]) ++ List.replicate (2 - (lg_sl ([.ref (AB 0), .int x])).length) Slot.unset).toArray = ls at hl ⊢
  have hl : lv_has ls 2 [(0, .ref (AB 0)), (1, .int x)] := hl
  have hP : va_P (dC, dI) vwCl (mL AB cI cZ sc ar) s.heap := hP
  have hD : va_D V (mL AB cI cZ sc ar) := hD
  refine lv_aload_n hx hb dX4_fail_0 rfl (lv_at hl 0 rfl) ?_
  refine lv_iload_n hx hb dX4_fail_1 rfl (lv_at hl 1 rfl) ?_
  refine va_put (D := (dC, dI)) (ci := 4) (v := .int x) (ty := .int) (C := RX4) (T := TX4) (N := 33) hx hb hts hinX4 tyX4 tyX4_ok nmX4 hown hK hP hD hS 0 rfl rfl 0 (by decide) (hts _ (List.mem_of_getElem? (i := 1) rfl)) (fun _ h9 => h9) rfl (by decide +kernel) rfl rfl (Nat.le_of_ble_eq_true rfl) dX4_fail_2 (fun H locs hP hD hS => ?_)
  have hP : va_P (dC, dI) vwCl (mL AB cI cZ (va_up sc 0 x) ar) H := hP
  have hD : va_D V (mL AB cI cZ (va_up sc 0 x) ar) := hD
  refine lv_iconst (v := 0) hx hb dX4_fail_5 (by decide) ?_
  exact W.iret hx hb hr (fun t ht hW => ⟨⟨_, (va_up sc 0 x, ar), rfl, ⟨rfl, rfl⟩, by rw [ht]; exact hP, hD⟩, hS.F ht⟩) hS.2.2 dX4_fail_6
set_option maxHeartbeats 4000000 in
set_option maxRecDepth 100000 in
/-- startBelief -/
theorem m_startBelief (l : Launch) (dC : Nat → ClassId) (dI : Nat → Nat → Nat) (AB : Nat → Nat) (cI cZ : ClassId) (τ : MS) {C : Nat} (hC : τ.1 10 = nI C) (hC6 : C ≤ 6) : Met l yX4_startBelief wsX4_startBelief ({ frames := 0, cells := 0, slots := 0, locals := 0 }) (va_Pc [.ref (AB 0)] (mP dC dI AB cI cZ τ)) (vp_Si (fun r => r = stR τ C)) 0 0 (fun _ => False) := by
  refine Met.ofW (cc := cX4_startBelief) (maxL := 5) (ret := (some .int)) (by decide) rfl ?_
  intro p e s m args below meth c s₁ B hml hv
  obtain ⟨rfl, hP, hK⟩ := hv
  have hx := B.exec
  have hb := B.bytes
  have hr := B.returns
  have hts := atoms_spec (ws := wsX4_startBelief) B.pre
  have hown : s.vm.findClass RX4 = some m.cls := findClass_of_methodNamed B.named
  have hlocks := B.notSynchronized
  have hinX4 : ∀ w ∈ wsX40, w ∈ wsX4_startBelief := fun _ h => List.mem_cons_of_mem _ (List.mem_append_right _ h)
  have hl := lv_entry ([.ref (AB 0)]) (n := 5) (Nat.le_of_ble_eq_true rfl)
  rw [lg_entry_eq]
  generalize (lg_sl ([.ref (AB 0)]) ++ List.replicate (5 - (lg_sl ([.ref (AB 0)])).length) Slot.unset).toArray = ls at hl ⊢
  have hl : lv_has ls 5 [(0, .ref (AB 0))] := hl
  refine lv_iconst (v := 0) hx hb dX4_startBelief_0 (by decide) ?_
  refine lv_istore_n (lv' := [(1, .int 0), (0, .ref (AB 0))]) hx hb dX4_startBelief_1 rfl hl (by decide) rfl (fun ls hl => ?_)
  refine lv_iconst (v := 0) hx hb dX4_startBelief_2 (by decide) ?_
  refine lv_istore_n (lv' := [(2, .int 0), (1, .int 0), (0, .ref (AB 0))]) hx hb dX4_startBelief_3 rfl hl (by decide) rfl (fun ls hl => ?_)
  refine w_loopP (pc := 4) 16 (fun k ls => lv_has ls 5 [(0, .ref (AB 0)), (1, .int (mkN (fun s => allN (fun c => alwF (τ.2 11 c) (τ.2 12 c) s) C) k)), (2, .int (nI k))]) ?_ 0 (Nat.zero_le _) ls (lv_sub hl [2, 1, 0] rfl)
  intro k ls hk hl ih
  refine lv_iload_n hx hb dX4_startBelief_4 rfl (lv_at hl 2 rfl) ?_
  refine lv_bipush (v := 16) hx hb dX4_startBelief_5 (by decide) ?_
  refine lv_icmp_ge (tgt := 86) hx hb dX4_startBelief_7 (by decide) (fun c7_0 => ?_) (fun c7_0 => ?_)
  · skip
    obtain rfl := ctr_ge (N := 16) rfl (by decide) hk c7_0
    refine lv_iload_n hx hb dX4_startBelief_86 rfl (lv_at hl 1 rfl) ?_
    exact W.iret hx hb hr (fun t ht hW => ⟨_, rfl, rfl, ht⟩) (fun q h => nomatch h) dX4_startBelief_87
  · skip
    have hlt := ctr_lt (N := 16) rfl (by decide) hk c7_0
    refine lv_iconst (v := 1) hx hb dX4_startBelief_10 (by decide) ?_
    refine lv_istore_n (lv' := [(3, .int 1), (0, .ref (AB 0)), (1, .int (mkN (fun s => allN (fun c => alwF (τ.2 11 c) (τ.2 12 c) s) C) k)), (2, .int (nI k))]) hx hb dX4_startBelief_11 rfl hl (by decide) rfl (fun ls hl => ?_)
    refine lv_iconst (v := 0) hx hb dX4_startBelief_12 (by decide) ?_
    refine lv_istore (lv' := [(4, .int 0), (3, .int 1), (0, .ref (AB 0)), (1, .int (mkN (fun s => allN (fun c => alwF (τ.2 11 c) (τ.2 12 c) s) C) k)), (2, .int (nI k))]) hx hb dX4_startBelief_13 hl (by decide) rfl (fun ls hl => ?_)
    refine w_loopP (pc := 15) C (fun j ls => lv_has ls 5 [(0, .ref (AB 0)), (1, .int (mkN (fun s => allN (fun c => alwF (τ.2 11 c) (τ.2 12 c) s) C) k)), (2, .int (nI k)), (3, .int (b2i (allN (fun c => alwF (τ.2 11 c) (τ.2 12 c) k) j))), (4, .int (nI j))]) ?_ 0 (Nat.zero_le _) ls (lv_sub hl [2, 3, 4, 1, 0] rfl)
    intro j ls hk2 hl ih2
    refine lv_iload hx hb dX4_startBelief_15 (lv_at hl 4 rfl) ?_
    refine lv_aload_n hx hb dX4_startBelief_17 rfl (lv_at hl 0 rfl) ?_
    refine va_get (D := (dC, dI)) (ci := 4) (v := .int (τ.1 10)) (C := RX4) (T := TX4) (N := 33) hx hb hts hinX4 hown hK hP 0 rfl rfl 10 (by decide) (hts _ (List.mem_of_getElem? (i := 1) rfl)) (fun _ h9 => h9) rfl dX4_startBelief_18 ?_
    refine lv_icmp_ge (tgt := 66) hx hb dX4_startBelief_21 (by decide) (fun c21_1 => ?_) (fun c21_1 => ?_)
    · skip
      obtain rfl : C = j := (ctr_ge (N := C) rfl (by omega) hk2 (by rw [← hC]; exact c21_1)).symm
      refine lv_iload_n hx hb dX4_startBelief_66 rfl (lv_at hl 1 rfl) ?_
      refine lv_iload_n hx hb dX4_startBelief_67 rfl (lv_at hl 3 rfl) ?_
      refine lv_if_eq (tgt := 77) hx hb dX4_startBelief_68 (by decide) (fun c68_2 => ?_) (fun c68_2 => ?_)
      · skip
        refine lv_iconst (v := 0) hx hb dX4_startBelief_77 (by decide) ?_
        refine lv_ior hx hb dX4_startBelief_78 ?_
        refine lv_istore_n (lv' := [(1, .int ((mkN (fun s => allN (fun c => alwF (τ.2 11 c) (τ.2 12 c) s) C) k) ||| 0)), (0, .ref (AB 0)), (2, .int (nI k)), (3, .int (b2i (allN (fun c => alwF (τ.2 11 c) (τ.2 12 c) k) C))), (4, .int (nI C))]) hx hb dX4_startBelief_79 rfl hl (by decide) rfl (fun ls hl => ?_)
        obtain ⟨y3, ey3⟩ : ∃ y : Int32, y = (nI k) + 1 := ⟨_, rfl⟩
        refine lv_iinc (v := y3) (lv' := [(2, .int y3), (1, .int ((mkN (fun s => allN (fun c => alwF (τ.2 11 c) (τ.2 12 c) s) C) k) ||| 0)), (0, .ref (AB 0)), (3, .int (b2i (allN (fun c => alwF (τ.2 11 c) (τ.2 12 c) k) C))), (4, .int (nI C))]) hx hb dX4_startBelief_80 hl (k := 2) rfl (by rw [ey3]; rfl) (by decide) rfl (fun ls hl => ?_)
        obtain rfl : y3 = nI (k + 1) := ey3.trans (nI_1 k)
        refine lv_goto (tgt := 4) hx hb dX4_startBelief_83 (by decide) ?_
        exact ih ls (by rw [mkN_f (f := (fun s => allN (fun c => alwF (τ.2 11 c) (τ.2 12 c) s) C)) (n := k) (b2i_0.mp c68_2), ← b_or0 (mkN (fun s => allN (fun c => alwF (τ.2 11 c) (τ.2 12 c) s) C) k)]; exact lv_sub hl [2, 1, 0] rfl) hlt
      · skip
        refine lv_iconst (v := 1) hx hb dX4_startBelief_71 (by decide) ?_
        refine lv_iload_n hx hb dX4_startBelief_72 rfl (lv_at hl 2 rfl) ?_
        refine lv_ishl hx hb dX4_startBelief_73 ?_
        refine lv_goto (tgt := 78) hx hb dX4_startBelief_74 (by decide) ?_
        refine lv_ior hx hb dX4_startBelief_78 ?_
        refine lv_istore_n (lv' := [(1, .int ((mkN (fun s => allN (fun c => alwF (τ.2 11 c) (τ.2 12 c) s) C) k) ||| (1 <<< ((nI k) &&& 31)))), (0, .ref (AB 0)), (2, .int (nI k)), (3, .int (b2i (allN (fun c => alwF (τ.2 11 c) (τ.2 12 c) k) C))), (4, .int (nI C))]) hx hb dX4_startBelief_79 rfl hl (by decide) rfl (fun ls hl => ?_)
        obtain ⟨y4, ey4⟩ : ∃ y : Int32, y = (nI k) + 1 := ⟨_, rfl⟩
        refine lv_iinc (v := y4) (lv' := [(2, .int y4), (1, .int ((mkN (fun s => allN (fun c => alwF (τ.2 11 c) (τ.2 12 c) s) C) k) ||| (1 <<< ((nI k) &&& 31)))), (0, .ref (AB 0)), (3, .int (b2i (allN (fun c => alwF (τ.2 11 c) (τ.2 12 c) k) C))), (4, .int (nI C))]) hx hb dX4_startBelief_80 hl (k := 2) rfl (by rw [ey4]; rfl) (by decide) rfl (fun ls hl => ?_)
        obtain rfl : y4 = nI (k + 1) := ey4.trans (nI_1 k)
        refine lv_goto (tgt := 4) hx hb dX4_startBelief_83 (by decide) ?_
        exact ih ls (by rw [mkN_t (f := (fun s => allN (fun c => alwF (τ.2 11 c) (τ.2 12 c) s) C)) (n := k) (b2i_n0.mp c68_2)]; exact lv_sub hl [2, 1, 0] rfl) hlt
    · skip
      have hlt2 : j < C := ctr_lt (N := C) rfl (by omega) hk2 (by rw [← hC]; exact c21_1)
      refine lv_iload_n hx hb dX4_startBelief_24 rfl (lv_at hl 3 rfl) ?_
      refine lv_if_eq (tgt := 58) hx hb dX4_startBelief_25 (by decide) (fun c25_5 => ?_) (fun c25_5 => ?_)
      · skip
        refine lv_iconst (v := 0) hx hb dX4_startBelief_58 (by decide) ?_
        refine lv_istore_n (lv' := [(3, .int 0), (0, .ref (AB 0)), (1, .int (mkN (fun s => allN (fun c => alwF (τ.2 11 c) (τ.2 12 c) s) C) k)), (2, .int (nI k)), (4, .int (nI j))]) hx hb dX4_startBelief_59 rfl hl (by decide) rfl (fun ls hl => ?_)
        obtain ⟨y6, ey6⟩ : ∃ y : Int32, y = (nI j) + 1 := ⟨_, rfl⟩
        refine lv_iinc (v := y6) (lv' := [(4, .int y6), (3, .int 0), (0, .ref (AB 0)), (1, .int (mkN (fun s => allN (fun c => alwF (τ.2 11 c) (τ.2 12 c) s) C) k)), (2, .int (nI k))]) hx hb dX4_startBelief_60 hl (k := 4) rfl (by rw [ey6]; rfl) (by decide) rfl (fun ls hl => ?_)
        obtain rfl : y6 = nI (j + 1) := ey6.trans (nI_1 j)
        refine lv_goto (tgt := 15) hx hb dX4_startBelief_63 (by decide) ?_
        exact ih2 ls (by rw [show b2i (allN (fun c => alwF (τ.2 11 c) (τ.2 12 c) k) (j + 1)) = 0 from by show b2i (_ && _) = _; rw [b2i_0.mp c25_5]; rfl]; exact lv_sub hl [2, 3, 4, 1, 0] rfl) hlt2
      · skip
        refine lv_iload_n hx hb dX4_startBelief_28 rfl (lv_at hl 2 rfl) ?_
        refine lv_aload_n hx hb dX4_startBelief_29 rfl (lv_at hl 0 rfl) ?_
        refine va_get (D := (dC, dI)) (ci := 4) (v := .ref (AB 11)) (C := RX4) (T := TX4) (N := 33) hx hb hts hinX4 hown hK hP 0 rfl rfl 11 (by decide) (hts _ (List.mem_of_getElem? (i := 2) rfl)) (fun _ h9 => h9) rfl dX4_startBelief_30 ?_
        refine lv_iload hx hb dX4_startBelief_33 (lv_at hl 4 rfl) ?_
        refine va_iald hx hb hK hP 10 0 rfl rfl (vp_in_nI (show j < 6 by omega) (by decide)) dX4_startBelief_35 ?_
        rw [nI_clamp (show j < 2 ^ 31 by have := (show j < 6 by omega); omega)]
        refine lv_iand hx hb dX4_startBelief_36 ?_
        refine lv_if_ne (tgt := 54) hx hb dX4_startBelief_37 (by decide) (fun c37_7 => ?_) (fun c37_7 => ?_)
        · skip
          refine lv_iconst (v := 1) hx hb dX4_startBelief_54 (by decide) ?_
          refine lv_goto (tgt := 59) hx hb dX4_startBelief_55 (by decide) ?_
          refine lv_istore_n (lv' := [(3, .int 1), (0, .ref (AB 0)), (1, .int (mkN (fun s => allN (fun c => alwF (τ.2 11 c) (τ.2 12 c) s) C) k)), (2, .int (nI k)), (4, .int (nI j))]) hx hb dX4_startBelief_59 rfl hl (by decide) rfl (fun ls hl => ?_)
          obtain ⟨y8, ey8⟩ : ∃ y : Int32, y = (nI j) + 1 := ⟨_, rfl⟩
          refine lv_iinc (v := y8) (lv' := [(4, .int y8), (3, .int 1), (0, .ref (AB 0)), (1, .int (mkN (fun s => allN (fun c => alwF (τ.2 11 c) (τ.2 12 c) s) C) k)), (2, .int (nI k))]) hx hb dX4_startBelief_60 hl (k := 4) rfl (by rw [ey8]; rfl) (by decide) rfl (fun ls hl => ?_)
          obtain rfl : y8 = nI (j + 1) := ey8.trans (nI_1 j)
          refine lv_goto (tgt := 15) hx hb dX4_startBelief_63 (by decide) ?_
          exact ih2 ls (by rw [show b2i (allN (fun c => alwF (τ.2 11 c) (τ.2 12 c) k) (j + 1)) = 1 from by show b2i (_ && alwF (τ.2 11 j) (τ.2 12 j) k) = _; rw [b2i_n0.mp c25_5, show alwF (τ.2 11 j) (τ.2 12 j) k = true from by unfold alwF; rw [decide_eq_true c37_7]; rfl]; rfl]; exact lv_sub hl [2, 3, 4, 1, 0] rfl) hlt2
        · skip
          refine lv_iload_n hx hb dX4_startBelief_40 rfl (lv_at hl 2 rfl) ?_
          refine lv_iconst (v := (-1)) hx hb dX4_startBelief_41 (by decide) ?_
          refine lv_ixor hx hb dX4_startBelief_42 ?_
          refine lv_aload_n hx hb dX4_startBelief_43 rfl (lv_at hl 0 rfl) ?_
          refine va_get (D := (dC, dI)) (ci := 4) (v := .ref (AB 12)) (C := RX4) (T := TX4) (N := 33) hx hb hts hinX4 hown hK hP 0 rfl rfl 12 (by decide) (hts _ (List.mem_of_getElem? (i := 3) rfl)) (fun _ h9 => h9) rfl dX4_startBelief_44 ?_
          refine lv_iload hx hb dX4_startBelief_47 (lv_at hl 4 rfl) ?_
          refine va_iald hx hb hK hP 11 0 rfl rfl (vp_in_nI (show j < 6 by omega) (by decide)) dX4_startBelief_49 ?_
          rw [nI_clamp (show j < 2 ^ 31 by have := (show j < 6 by omega); omega)]
          refine lv_iand hx hb dX4_startBelief_50 ?_
          refine lv_if_eq (tgt := 58) hx hb dX4_startBelief_51 (by decide) (fun c51_9 => ?_) (fun c51_9 => ?_)
          · skip
            refine lv_iconst (v := 0) hx hb dX4_startBelief_58 (by decide) ?_
            refine lv_istore_n (lv' := [(3, .int 0), (0, .ref (AB 0)), (1, .int (mkN (fun s => allN (fun c => alwF (τ.2 11 c) (τ.2 12 c) s) C) k)), (2, .int (nI k)), (4, .int (nI j))]) hx hb dX4_startBelief_59 rfl hl (by decide) rfl (fun ls hl => ?_)
            obtain ⟨y10, ey10⟩ : ∃ y : Int32, y = (nI j) + 1 := ⟨_, rfl⟩
            refine lv_iinc (v := y10) (lv' := [(4, .int y10), (3, .int 0), (0, .ref (AB 0)), (1, .int (mkN (fun s => allN (fun c => alwF (τ.2 11 c) (τ.2 12 c) s) C) k)), (2, .int (nI k))]) hx hb dX4_startBelief_60 hl (k := 4) rfl (by rw [ey10]; rfl) (by decide) rfl (fun ls hl => ?_)
            obtain rfl : y10 = nI (j + 1) := ey10.trans (nI_1 j)
            refine lv_goto (tgt := 15) hx hb dX4_startBelief_63 (by decide) ?_
            exact ih2 ls (by rw [show b2i (allN (fun c => alwF (τ.2 11 c) (τ.2 12 c) k) (j + 1)) = 0 from by show b2i (_ && alwF (τ.2 11 j) (τ.2 12 j) k) = _; rw [b2i_n0.mp c25_5, show alwF (τ.2 11 j) (τ.2 12 j) k = false from by unfold alwF; rw [decide_eq_false (fun q => q c37_7), decide_eq_false (fun q => q c51_9)]; rfl]; rfl]; exact lv_sub hl [2, 3, 4, 1, 0] rfl) hlt2
          · skip
            refine lv_iconst (v := 1) hx hb dX4_startBelief_54 (by decide) ?_
            refine lv_goto (tgt := 59) hx hb dX4_startBelief_55 (by decide) ?_
            refine lv_istore_n (lv' := [(3, .int 1), (0, .ref (AB 0)), (1, .int (mkN (fun s => allN (fun c => alwF (τ.2 11 c) (τ.2 12 c) s) C) k)), (2, .int (nI k)), (4, .int (nI j))]) hx hb dX4_startBelief_59 rfl hl (by decide) rfl (fun ls hl => ?_)
            obtain ⟨y11, ey11⟩ : ∃ y : Int32, y = (nI j) + 1 := ⟨_, rfl⟩
            refine lv_iinc (v := y11) (lv' := [(4, .int y11), (3, .int 1), (0, .ref (AB 0)), (1, .int (mkN (fun s => allN (fun c => alwF (τ.2 11 c) (τ.2 12 c) s) C) k)), (2, .int (nI k))]) hx hb dX4_startBelief_60 hl (k := 4) rfl (by rw [ey11]; rfl) (by decide) rfl (fun ls hl => ?_)
            obtain rfl : y11 = nI (j + 1) := ey11.trans (nI_1 j)
            refine lv_goto (tgt := 15) hx hb dX4_startBelief_63 (by decide) ?_
            exact ih2 ls (by rw [show b2i (allN (fun c => alwF (τ.2 11 c) (τ.2 12 c) k) (j + 1)) = 1 from by show b2i (_ && alwF (τ.2 11 j) (τ.2 12 j) k) = _; rw [b2i_n0.mp c25_5, show alwF (τ.2 11 j) (τ.2 12 j) k = true from by unfold alwF; rw [decide_eq_true c51_9]; cases decide (nI k &&& τ.2 11 j ≠ 0) <;> rfl]; rfl]; exact lv_sub hl [2, 3, 4, 1, 0] rfl) hlt2
set_option maxHeartbeats 4000000 in
set_option maxRecDepth 100000 in
/-- usable -/
theorem m_usable (l : Launch) (dC : Nat → ClassId) (dI : Nat → Nat → Nat) (AB : Nat → Nat) (cI cZ : ClassId) (τ : MS) (th : Nat → Bool) {a : Nat} (ha : a < 8) (hth : τ.2 1 a = b2i (th a)) (b : Int32) : Met l yX4_usable wsX4_usable ({ frames := 1, cells := 0, slots := 0, locals := 22 }) (va_Pc [.ref (AB 0), .int (nI a), .int b] (mP dC dI AB cI cZ τ)) (vp_Si (fun r => r = b2i (usR th τ a b))) 0 0 (fun _ => False) := by
  refine Met.ofW (cc := cX4_usable) (maxL := 5) (ret := (some .boolean)) (by decide) rfl ?_
  intro p e s m args below meth c s₁ B hml hv
  obtain ⟨rfl, hP, hK⟩ := hv
  have hx := B.exec
  have hb := B.bytes
  have hr := B.returns
  have hts := atoms_spec (ws := wsX4_usable) B.pre
  have hown : s.vm.findClass RX4 = some m.cls := findClass_of_methodNamed B.named
  have hlocks := B.notSynchronized
  have hinX4 : ∀ w ∈ wsX40, w ∈ wsX4_usable := fun _ h => List.mem_cons_of_mem _ (List.mem_append_right _ h)
  have hl := lv_entry ([.ref (AB 0), .int (nI a), .int b]) (n := 5) (Nat.le_of_ble_eq_true rfl)
  rw [lg_entry_eq]
  generalize (lg_sl ([.ref (AB 0), .int (nI a), .int b]) ++ List.replicate (5 - (lg_sl ([.ref (AB 0), .int (nI a), .int b])).length) Slot.unset).toArray = ls at hl ⊢
  have hl : lv_has ls 5 [(0, .ref (AB 0)), (1, .int (nI a)), (2, .int b)] := hl
  refine lv_aload_n hx hb dX4_usable_0 rfl (lv_at hl 0 rfl) ?_
  refine va_get (D := (dC, dI)) (ci := 4) (v := .ref (AB 1)) (C := RX4) (T := TX4) (N := 33) hx hb hts hinX4 hown hK hP 0 rfl rfl 1 (by decide) (hts _ (List.mem_of_getElem? (i := 1) rfl)) (fun _ h9 => h9) rfl dX4_usable_1 ?_
  refine lv_iload_n hx hb dX4_usable_4 rfl (lv_at hl 1 rfl) ?_
  refine va_zald hx hb hK hP 1 1 rfl rfl (vp_in_nI (show a < 8 by omega) (by decide)) dX4_usable_5 ?_
  rw [nI_clamp (show a < 2 ^ 31 by have := (show a < 8 by omega); omega)]
  refine lv_topi (fun y0 ey0 => ?_)
  obtain rfl : y0 = b2i (th a) := ey0.trans (hth)
  refine lv_istore_n (lv' := [(3, .int (b2i (th a))), (0, .ref (AB 0)), (1, .int (nI a)), (2, .int b)]) hx hb dX4_usable_6 rfl hl (by decide) rfl (fun ls hl => ?_)
  refine lv_iconst (v := 0) hx hb dX4_usable_7 (by decide) ?_
  refine lv_istore (lv' := [(4, .int 0), (3, .int (b2i (th a))), (0, .ref (AB 0)), (1, .int (nI a)), (2, .int b)]) hx hb dX4_usable_8 hl (by decide) rfl (fun ls hl => ?_)
  refine w_loopP (pc := 10) 16 (fun k ls => lv_has ls 5 [(0, .ref (AB 0)), (1, .int (nI a)), (2, .int b), (3, .int (b2i (th a && allN (usP τ a b) k))), (4, .int (nI k))]) ?_ 0 (Nat.zero_le _) ls (by rw [show b2i (th a && allN (usP τ a b) 0) = b2i (th a) by rw [show allN (usP τ a b) 0 = true from rfl, Bool.and_true]]; exact lv_sub hl [2, 3, 4, 1, 0] rfl)
  intro k ls hk hl ih
  refine lv_iload hx hb dX4_usable_10 (lv_at hl 4 rfl) ?_
  refine lv_bipush (v := 16) hx hb dX4_usable_12 (by decide) ?_
  refine lv_icmp_ge (tgt := 62) hx hb dX4_usable_14 (by decide) (fun c14_1 => ?_) (fun c14_1 => ?_)
  · skip
    obtain rfl := ctr_ge (N := 16) rfl (by decide) hk c14_1
    refine lv_iload_n hx hb dX4_usable_62 rfl (lv_at hl 3 rfl) ?_
    exact W.zret hx hb hr (b2i_nar _) (fun t ht hW => ⟨_, rfl, rfl, ht⟩) (fun q h => nomatch h) dX4_usable_63
  · skip
    have hlt := ctr_lt (N := 16) rfl (by decide) hk c14_1
    refine lv_iload_n hx hb dX4_usable_17 rfl (lv_at hl 3 rfl) ?_
    refine lv_if_eq (tgt := 62) hx hb dX4_usable_18 (by decide) (fun c18_2 => ?_) (fun c18_2 => ?_)
    · skip
      refine lv_iload_n hx hb dX4_usable_62 rfl (lv_at hl 3 rfl) ?_
      exact W.zret hx hb hr (b2i_nar _) (fun t ht hW => ⟨_, rfl, by show _ = b2i (th a && _); have h9 := b2i_0.mp c18_2; rw [h9]; cases hq : th a with | false => rfl | true => rw [hq, Bool.true_and] at h9; rw [allN_false (by omega) h9]; rfl, ht⟩) (fun q h => nomatch h) dX4_usable_63
    · skip
      refine lv_iload_n hx hb dX4_usable_21 rfl (lv_at hl 2 rfl) ?_
      refine lv_iload hx hb dX4_usable_22 (lv_at hl 4 rfl) ?_
      refine lv_ishr hx hb dX4_usable_24 ?_
      refine lv_iconst (v := 1) hx hb dX4_usable_25 (by decide) ?_
      refine lv_iand hx hb dX4_usable_26 ?_
      refine lv_topi (fun y3 ey3 => ?_)
      obtain rfl : y3 = b2i (bt b k) := ey3.trans (b_shr1 (by omega) b)
      refine lv_if_eq (tgt := 50) hx hb dX4_usable_27 (by decide) (fun c27_4 => ?_) (fun c27_4 => ?_)
      · skip
        refine lv_iconst (v := 1) hx hb dX4_usable_50 (by decide) ?_
        refine lv_goto (tgt := 55) hx hb dX4_usable_51 (by decide) ?_
        refine lv_istore_n (lv' := [(3, .int 1), (0, .ref (AB 0)), (1, .int (nI a)), (2, .int b), (4, .int (nI k))]) hx hb dX4_usable_55 rfl hl (by decide) rfl (fun ls hl => ?_)
        obtain ⟨y5, ey5⟩ : ∃ y : Int32, y = (nI k) + 1 := ⟨_, rfl⟩
        refine lv_iinc (v := y5) (lv' := [(4, .int y5), (3, .int 1), (0, .ref (AB 0)), (1, .int (nI a)), (2, .int b)]) hx hb dX4_usable_56 hl (k := 4) rfl (by rw [ey5]; rfl) (by decide) rfl (fun ls hl => ?_)
        obtain rfl : y5 = nI (k + 1) := ey5.trans (nI_1 k)
        refine lv_goto (tgt := 10) hx hb dX4_usable_59 (by decide) ?_
        exact ih ls (by rw [show b2i (th a && allN (usP τ a b) (k + 1)) = 1 from by rw [show allN (usP τ a b) (k + 1) = (allN (usP τ a b) k && (usP τ a b) k) from rfl, ← Bool.and_assoc, b2i_n0.mp c18_2, show usP τ a b k = true from by unfold usP; rw [b2i_0.mp c27_4]; rfl]; rfl]; exact lv_sub hl [2, 3, 4, 1, 0] rfl) hlt
      · skip
        refine lv_aload_n hx hb dX4_usable_30 rfl (lv_at hl 0 rfl) ?_
        refine va_get (D := (dC, dI)) (ci := 4) (v := .ref (AB 2)) (C := RX4) (T := TX4) (N := 33) hx hb hts hinX4 hown hK hP 0 rfl rfl 2 (by decide) (hts _ (List.mem_of_getElem? (i := 2) rfl)) (fun _ h9 => h9) rfl dX4_usable_31 ?_
        refine lv_iload_n hx hb dX4_usable_34 rfl (lv_at hl 1 rfl) ?_
        refine va_iald hx hb hK hP 2 0 rfl rfl (vp_in_nI (show a < 8 by omega) (by decide)) dX4_usable_35 ?_
        rw [nI_clamp (show a < 2 ^ 31 by have := (show a < 8 by omega); omega)]
        refine lv_aload_n hx hb dX4_usable_36 rfl (lv_at hl 0 rfl) ?_
        refine va_get (D := (dC, dI)) (ci := 4) (v := .ref (AB 3)) (C := RX4) (T := TX4) (N := 33) hx hb hts hinX4 hown hK hP 0 rfl rfl 3 (by decide) (hts _ (List.mem_of_getElem? (i := 3) rfl)) (fun _ h9 => h9) rfl dX4_usable_37 ?_
        refine lv_iload_n hx hb dX4_usable_40 rfl (lv_at hl 1 rfl) ?_
        refine va_iald hx hb hK hP 3 0 rfl rfl (vp_in_nI (show a < 8 by omega) (by decide)) dX4_usable_41 ?_
        rw [nI_clamp (show a < 2 ^ 31 by have := (show a < 8 by omega); omega)]
        refine lv_iload hx hb dX4_usable_42 (lv_at hl 4 rfl) ?_
        refine vp_callSi (W.runS (As := [.int (τ.2 2 a), .int (τ.2 3 a), .int (nI k)]) (rest := []) ⟨hx, hb, hml, hown, hts⟩ (m_holds l (τ.2 2 a) (τ.2 3 a) k) (va_cwS 3 hts gX4_usable_X4_holds rfl rfl rfl (by decide +kernel) ⟨Nat.le_of_ble_eq_true rfl, Nat.le_of_ble_eq_true rfl⟩) ⟨bl_T, fun U hU hW => ⟨rfl, trivial⟩⟩ rfl rfl hl.1 rfl (lv_room (Nat.le_of_ble_eq_true rfl)) dX4_usable_44 ⟨Nat.zero_le _, Nat.zero_le _⟩) (fun r er => ?_)
        obtain rfl : r = b2i (demF (τ.2 2 a) (τ.2 3 a) k) := er
        refine lv_if_eq (tgt := 54) hx hb dX4_usable_47 (by decide) (fun c47_6 => ?_) (fun c47_6 => ?_)
        · skip
          refine lv_iconst (v := 0) hx hb dX4_usable_54 (by decide) ?_
          refine lv_istore_n (lv' := [(3, .int 0), (0, .ref (AB 0)), (1, .int (nI a)), (2, .int b), (4, .int (nI k))]) hx hb dX4_usable_55 rfl hl (by decide) rfl (fun ls hl => ?_)
          obtain ⟨y7, ey7⟩ : ∃ y : Int32, y = (nI k) + 1 := ⟨_, rfl⟩
          refine lv_iinc (v := y7) (lv' := [(4, .int y7), (3, .int 0), (0, .ref (AB 0)), (1, .int (nI a)), (2, .int b)]) hx hb dX4_usable_56 hl (k := 4) rfl (by rw [ey7]; rfl) (by decide) rfl (fun ls hl => ?_)
          obtain rfl : y7 = nI (k + 1) := ey7.trans (nI_1 k)
          refine lv_goto (tgt := 10) hx hb dX4_usable_59 (by decide) ?_
          exact ih ls (by rw [show b2i (th a && allN (usP τ a b) (k + 1)) = 0 from by rw [show allN (usP τ a b) (k + 1) = (allN (usP τ a b) k && (usP τ a b) k) from rfl, ← Bool.and_assoc, b2i_n0.mp c18_2, show usP τ a b k = false from by unfold usP; rw [b2i_n0.mp c27_4, b2i_0.mp c47_6]; rfl]; rfl]; exact lv_sub hl [2, 3, 4, 1, 0] rfl) hlt
        · skip
          refine lv_iconst (v := 1) hx hb dX4_usable_50 (by decide) ?_
          refine lv_goto (tgt := 55) hx hb dX4_usable_51 (by decide) ?_
          refine lv_istore_n (lv' := [(3, .int 1), (0, .ref (AB 0)), (1, .int (nI a)), (2, .int b), (4, .int (nI k))]) hx hb dX4_usable_55 rfl hl (by decide) rfl (fun ls hl => ?_)
          obtain ⟨y8, ey8⟩ : ∃ y : Int32, y = (nI k) + 1 := ⟨_, rfl⟩
          refine lv_iinc (v := y8) (lv' := [(4, .int y8), (3, .int 1), (0, .ref (AB 0)), (1, .int (nI a)), (2, .int b)]) hx hb dX4_usable_56 hl (k := 4) rfl (by rw [ey8]; rfl) (by decide) rfl (fun ls hl => ?_)
          obtain rfl : y8 = nI (k + 1) := ey8.trans (nI_1 k)
          refine lv_goto (tgt := 10) hx hb dX4_usable_59 (by decide) ?_
          exact ih ls (by rw [show b2i (th a && allN (usP τ a b) (k + 1)) = 1 from by rw [show allN (usP τ a b) (k + 1) = (allN (usP τ a b) k && (usP τ a b) k) from rfl, ← Bool.and_assoc, b2i_n0.mp c18_2, show usP τ a b k = true from by unfold usP; rw [b2i_n0.mp c27_4, b2i_n0.mp c47_6]; rfl]; rfl]; exact lv_sub hl [2, 3, 4, 1, 0] rfl) hlt
set_option maxHeartbeats 4000000 in
set_option maxRecDepth 100000 in
/-- next -/
theorem m_next (l : Launch) (dC : Nat → ClassId) (dI : Nat → Nat → Nat) (AB : Nat → Nat) (cI cZ : ClassId) (τ : MS) (ef : Nat → Nat) {a : Nat} (ha : a < 8) (hef : τ.2 5 a = nI (ef a)) (he4 : ef a ≤ 4) {k : Nat} (hk16 : k < 16) : Met l yX4_next wsX4_next ({ frames := 1, cells := 0, slots := 0, locals := 22 }) (va_Pc [.ref (AB 0), .int (nI a), .int (nI k)] (mP dC dI AB cI cZ τ)) (vp_Si (fun r => r = nxN τ.2 a k (ef a))) 0 0 (fun _ => False) := by
  refine Met.ofW (cc := cX4_next) (maxL := 5) (ret := (some .int)) (by decide) rfl ?_
  intro p e s m args below meth c s₁ B hml hv
  obtain ⟨rfl, hP, hK⟩ := hv
  have hx := B.exec
  have hb := B.bytes
  have hr := B.returns
  have hts := atoms_spec (ws := wsX4_next) B.pre
  have hown : s.vm.findClass RX4 = some m.cls := findClass_of_methodNamed B.named
  have hlocks := B.notSynchronized
  have hinX4 : ∀ w ∈ wsX40, w ∈ wsX4_next := fun _ h => List.mem_cons_of_mem _ (List.mem_append_right _ h)
  have hl := lv_entry ([.ref (AB 0), .int (nI a), .int (nI k)]) (n := 5) (Nat.le_of_ble_eq_true rfl)
  rw [lg_entry_eq]
  generalize (lg_sl ([.ref (AB 0), .int (nI a), .int (nI k)]) ++ List.replicate (5 - (lg_sl ([.ref (AB 0), .int (nI a), .int (nI k)])).length) Slot.unset).toArray = ls at hl ⊢
  have hl : lv_has ls 5 [(0, .ref (AB 0)), (1, .int (nI a)), (2, .int (nI k))] := hl
  refine lv_iload_n hx hb dX4_next_0 rfl (lv_at hl 2 rfl) ?_
  refine lv_istore_n (lv' := [(3, .int (nI k)), (0, .ref (AB 0)), (1, .int (nI a)), (2, .int (nI k))]) hx hb dX4_next_1 rfl hl (by decide) rfl (fun ls hl => ?_)
  refine lv_iconst (v := 4) hx hb dX4_next_2 (by decide) ?_
  refine lv_iload_n hx hb dX4_next_3 rfl (lv_at hl 2 rfl) ?_
  refine lv_imul hx hb dX4_next_4 ?_
  refine lv_topi (fun y0 ey0 => ?_)
  obtain rfl : y0 = nI (4 * a) := ey0.trans (pk_mul 4 a)
  refine lv_istore (lv' := [(4, .int (nI (4 * a))), (3, .int (nI k)), (0, .ref (AB 0)), (1, .int (nI a)), (2, .int (nI k))]) hx hb dX4_next_5 hl (by decide) rfl (fun ls hl => ?_)
  refine w_loopP (pc := 7) (ef a) (fun j ls => lv_has ls 5 [(0, .ref (AB 0)), (1, .int (nI a)), (2, .int (nI k)), (3, .int (nxN τ.2 a k j)), (4, .int (nI (4 * a + j)))]) ?_ 0 (Nat.zero_le _) ls (lv_sub hl [2, 3, 4, 1, 0] rfl)
  intro j ls hk hl ih
  refine lv_iload hx hb dX4_next_7 (lv_at hl 4 rfl) ?_
  refine lv_iconst (v := 4) hx hb dX4_next_9 (by decide) ?_
  refine lv_iload_n hx hb dX4_next_10 rfl (lv_at hl 1 rfl) ?_
  refine lv_imul hx hb dX4_next_11 ?_
  refine lv_topi (fun y1 ey1 => ?_)
  obtain rfl : y1 = nI (4 * a) := ey1.trans (pk_mul 4 a)
  refine lv_aload_n hx hb dX4_next_12 rfl (lv_at hl 0 rfl) ?_
  refine va_get (D := (dC, dI)) (ci := 4) (v := .ref (AB 5)) (C := RX4) (T := TX4) (N := 33) hx hb hts hinX4 hown hK hP 0 rfl rfl 5 (by decide) (hts _ (List.mem_of_getElem? (i := 1) rfl)) (fun _ h9 => h9) rfl dX4_next_13 ?_
  refine lv_iload_n hx hb dX4_next_16 rfl (lv_at hl 1 rfl) ?_
  refine va_iald hx hb hK hP 5 0 rfl rfl (vp_in_nI (show a < 8 by omega) (by decide)) dX4_next_17 ?_
  rw [nI_clamp (show a < 2 ^ 31 by have := (show a < 8 by omega); omega)]
  refine lv_topi (fun y2 ey2 => ?_)
  obtain rfl : y2 = nI (ef a) := ey2.trans (hef)
  refine lv_iadd hx hb dX4_next_18 ?_
  refine lv_topi (fun y3 ey3 => ?_)
  obtain rfl : y3 = nI (4 * a + ef a) := ey3.trans (nI_add (4 * a) (ef a))
  refine lv_icmp_ge (tgt := 87) hx hb dX4_next_19 (by decide) (fun c19_4 => ?_) (fun c19_4 => ?_)
  · skip
    have hj : j = ef a := by have h9 := (nI_leI (a := 4 * a + ef a) (b := 4 * a + j) (by omega) (by omega)).mp c19_4; omega
    subst hj
    refine lv_iload_n hx hb dX4_next_87 rfl (lv_at hl 3 rfl) ?_
    exact W.iret hx hb hr (fun t ht hW => ⟨_, rfl, rfl, ht⟩) (fun q h => nomatch h) dX4_next_88
  · skip
    have hlt : j < ef a := by rcases Nat.lt_or_ge j (ef a) with z | z; exact z; exact absurd (nI_le (show 4 * a + ef a ≤ 4 * a + j by omega) (by omega)) c19_4
    refine lv_aload_n hx hb dX4_next_22 rfl (lv_at hl 0 rfl) ?_
    refine va_get (D := (dC, dI)) (ci := 4) (v := .ref (AB 8)) (C := RX4) (T := TX4) (N := 33) hx hb hts hinX4 hown hK hP 0 rfl rfl 8 (by decide) (hts _ (List.mem_of_getElem? (i := 2) rfl)) (fun _ h9 => h9) rfl dX4_next_23 ?_
    refine lv_iload hx hb dX4_next_26 (lv_at hl 4 rfl) ?_
    refine va_iald hx hb hK hP 8 0 rfl rfl (vp_in_nI (show (4 * a + j) < 32 by omega) (by decide)) dX4_next_28 ?_
    rw [nI_clamp (show (4 * a + j) < 2 ^ 31 by have := (show (4 * a + j) < 32 by omega); omega)]
    refine lv_aload_n hx hb dX4_next_29 rfl (lv_at hl 0 rfl) ?_
    refine va_get (D := (dC, dI)) (ci := 4) (v := .ref (AB 9)) (C := RX4) (T := TX4) (N := 33) hx hb hts hinX4 hown hK hP 0 rfl rfl 9 (by decide) (hts _ (List.mem_of_getElem? (i := 3) rfl)) (fun _ h9 => h9) rfl dX4_next_30 ?_
    refine lv_iload hx hb dX4_next_33 (lv_at hl 4 rfl) ?_
    refine va_iald hx hb hK hP 9 0 rfl rfl (vp_in_nI (show (4 * a + j) < 32 by omega) (by decide)) dX4_next_35 ?_
    rw [nI_clamp (show (4 * a + j) < 2 ^ 31 by have := (show (4 * a + j) < 32 by omega); omega)]
    refine lv_iload_n hx hb dX4_next_36 rfl (lv_at hl 2 rfl) ?_
    refine vp_callSi (W.runS (As := [.int (τ.2 8 (4 * a + j)), .int (τ.2 9 (4 * a + j)), .int (nI k)]) (rest := []) ⟨hx, hb, hml, hown, hts⟩ (m_holds l (τ.2 8 (4 * a + j)) (τ.2 9 (4 * a + j)) k) (va_cwS 3 hts gX4_next_X4_holds rfl rfl rfl (by decide +kernel) ⟨Nat.le_of_ble_eq_true rfl, Nat.le_of_ble_eq_true rfl⟩) ⟨bl_T, fun U hU hW => ⟨rfl, trivial⟩⟩ rfl rfl hl.1 rfl (lv_room (Nat.le_of_ble_eq_true rfl)) dX4_next_37 ⟨Nat.zero_le _, Nat.zero_le _⟩) (fun r er => ?_)
    obtain rfl : r = b2i (demF (τ.2 8 (4 * a + j)) (τ.2 9 (4 * a + j)) k) := er
    refine lv_if_eq (tgt := 81) hx hb dX4_next_40 (by decide) (fun c40_5 => ?_) (fun c40_5 => ?_)
    · skip
      obtain ⟨y6, ey6⟩ : ∃ y : Int32, y = (nI (4 * a + j)) + 1 := ⟨_, rfl⟩
      refine lv_iinc (v := y6) (lv' := [(4, .int y6), (0, .ref (AB 0)), (1, .int (nI a)), (2, .int (nI k)), (3, .int (nxN τ.2 a k j))]) hx hb dX4_next_81 hl (k := 4) rfl (by rw [ey6]; rfl) (by decide) rfl (fun ls hl => ?_)
      obtain rfl : y6 = nI ((4 * a + j) + 1) := ey6.trans (nI_1 (4 * a + j))
      refine lv_goto (tgt := 7) hx hb dX4_next_84 (by decide) ?_
      exact ih ls (by rw [nxN.eq_2, if_neg (by rw [b2i_0.mp c40_5]; decide)]; exact lv_sub hl [1, 2, 3, 4, 0] rfl) hlt
    · skip
      refine lv_aload_n hx hb dX4_next_43 rfl (lv_at hl 0 rfl) ?_
      refine va_get (D := (dC, dI)) (ci := 4) (v := .ref (AB 7)) (C := RX4) (T := TX4) (N := 33) hx hb hts hinX4 hown hK hP 0 rfl rfl 7 (by decide) (hts _ (List.mem_of_getElem? (i := 4) rfl)) (fun _ h9 => h9) rfl dX4_next_44 ?_
      refine lv_iload hx hb dX4_next_47 (lv_at hl 4 rfl) ?_
      refine va_zald hx hb hK hP 7 1 rfl rfl (vp_in_nI (show (4 * a + j) < 32 by omega) (by decide)) dX4_next_49 ?_
      rw [nI_clamp (show (4 * a + j) < 2 ^ 31 by have := (show (4 * a + j) < 32 by omega); omega)]
      refine lv_if_eq (tgt := 67) hx hb dX4_next_50 (by decide) (fun c50_7 => ?_) (fun c50_7 => ?_)
      · skip
        refine lv_iload_n hx hb dX4_next_67 rfl (lv_at hl 3 rfl) ?_
        refine lv_iconst (v := 1) hx hb dX4_next_68 (by decide) ?_
        refine lv_aload_n hx hb dX4_next_69 rfl (lv_at hl 0 rfl) ?_
        refine va_get (D := (dC, dI)) (ci := 4) (v := .ref (AB 6)) (C := RX4) (T := TX4) (N := 33) hx hb hts hinX4 hown hK hP 0 rfl rfl 6 (by decide) (hts _ (List.mem_of_getElem? (i := 5) rfl)) (fun _ h9 => h9) rfl dX4_next_70 ?_
        refine lv_iload hx hb dX4_next_73 (lv_at hl 4 rfl) ?_
        refine va_iald hx hb hK hP 6 0 rfl rfl (vp_in_nI (show (4 * a + j) < 32 by omega) (by decide)) dX4_next_75 ?_
        rw [nI_clamp (show (4 * a + j) < 2 ^ 31 by have := (show (4 * a + j) < 32 by omega); omega)]
        refine lv_ishl hx hb dX4_next_76 ?_
        refine lv_iconst (v := (-1)) hx hb dX4_next_77 (by decide) ?_
        refine lv_ixor hx hb dX4_next_78 ?_
        refine lv_iand hx hb dX4_next_79 ?_
        refine lv_istore_n (lv' := [(3, .int ((nxN τ.2 a k j) &&& ((1 <<< ((τ.2 6 (4 * a + j)) &&& 31)) ^^^ (-1)))), (0, .ref (AB 0)), (1, .int (nI a)), (2, .int (nI k)), (4, .int (nI (4 * a + j)))]) hx hb dX4_next_80 rfl hl (by decide) rfl (fun ls hl => ?_)
        obtain ⟨y8, ey8⟩ : ∃ y : Int32, y = (nI (4 * a + j)) + 1 := ⟨_, rfl⟩
        refine lv_iinc (v := y8) (lv' := [(4, .int y8), (3, .int ((nxN τ.2 a k j) &&& ((1 <<< ((τ.2 6 (4 * a + j)) &&& 31)) ^^^ (-1)))), (0, .ref (AB 0)), (1, .int (nI a)), (2, .int (nI k))]) hx hb dX4_next_81 hl (k := 4) rfl (by rw [ey8]; rfl) (by decide) rfl (fun ls hl => ?_)
        obtain rfl : y8 = nI ((4 * a + j) + 1) := ey8.trans (nI_1 (4 * a + j))
        refine lv_goto (tgt := 7) hx hb dX4_next_84 (by decide) ?_
        exact ih ls (by rw [nxN.eq_2, if_pos (b2i_n0.mp c40_5), if_pos c50_7]; exact lv_sub hl [2, 3, 4, 1, 0] rfl) hlt
      · skip
        refine lv_iload_n hx hb dX4_next_53 rfl (lv_at hl 3 rfl) ?_
        refine lv_iconst (v := 1) hx hb dX4_next_54 (by decide) ?_
        refine lv_aload_n hx hb dX4_next_55 rfl (lv_at hl 0 rfl) ?_
        refine va_get (D := (dC, dI)) (ci := 4) (v := .ref (AB 6)) (C := RX4) (T := TX4) (N := 33) hx hb hts hinX4 hown hK hP 0 rfl rfl 6 (by decide) (hts _ (List.mem_of_getElem? (i := 5) rfl)) (fun _ h9 => h9) rfl dX4_next_56 ?_
        refine lv_iload hx hb dX4_next_59 (lv_at hl 4 rfl) ?_
        refine va_iald hx hb hK hP 6 0 rfl rfl (vp_in_nI (show (4 * a + j) < 32 by omega) (by decide)) dX4_next_61 ?_
        rw [nI_clamp (show (4 * a + j) < 2 ^ 31 by have := (show (4 * a + j) < 32 by omega); omega)]
        refine lv_ishl hx hb dX4_next_62 ?_
        refine lv_ior hx hb dX4_next_63 ?_
        refine lv_goto (tgt := 80) hx hb dX4_next_64 (by decide) ?_
        refine lv_istore_n (lv' := [(3, .int ((nxN τ.2 a k j) ||| (1 <<< ((τ.2 6 (4 * a + j)) &&& 31)))), (0, .ref (AB 0)), (1, .int (nI a)), (2, .int (nI k)), (4, .int (nI (4 * a + j)))]) hx hb dX4_next_80 rfl hl (by decide) rfl (fun ls hl => ?_)
        obtain ⟨y9, ey9⟩ : ∃ y : Int32, y = (nI (4 * a + j)) + 1 := ⟨_, rfl⟩
        refine lv_iinc (v := y9) (lv' := [(4, .int y9), (3, .int ((nxN τ.2 a k j) ||| (1 <<< ((τ.2 6 (4 * a + j)) &&& 31)))), (0, .ref (AB 0)), (1, .int (nI a)), (2, .int (nI k))]) hx hb dX4_next_81 hl (k := 4) rfl (by rw [ey9]; rfl) (by decide) rfl (fun ls hl => ?_)
        obtain rfl : y9 = nI ((4 * a + j) + 1) := ey9.trans (nI_1 (4 * a + j))
        refine lv_goto (tgt := 7) hx hb dX4_next_84 (by decide) ?_
        exact ih ls (by rw [nxN.eq_2, if_pos (b2i_n0.mp c40_5), if_neg c50_7]; exact lv_sub hl [2, 3, 4, 1, 0] rfl) hlt
set_option maxHeartbeats 4000000 in
set_option maxRecDepth 100000 in
/-- after -/
theorem m_after (l : Launch) (dC : Nat → ClassId) (dI : Nat → Nat → Nat) (AB : Nat → Nat) (cI cZ : ClassId) (τ : MS) (ef : Nat → Nat) {a : Nat} (ha : a < 8) (hef : τ.2 5 a = nI (ef a)) (he4 : ef a ≤ 4) (b : Int32) : Met l yX4_after wsX4_after ({ frames := 2, cells := 0, slots := 0, locals := 46 }) (va_Pc [.ref (AB 0), .int (nI a), .int b] (mP dC dI AB cI cZ τ)) (vp_Si (fun r => r = afR ef τ a b)) 0 0 (fun _ => False) := by
  refine Met.ofW (cc := cX4_after) (maxL := 5) (ret := (some .int)) (by decide) rfl ?_
  intro p e s m args below meth c s₁ B hml hv
  obtain ⟨rfl, hP, hK⟩ := hv
  have hx := B.exec
  have hb := B.bytes
  have hr := B.returns
  have hts := atoms_spec (ws := wsX4_after) B.pre
  have hown : s.vm.findClass RX4 = some m.cls := findClass_of_methodNamed B.named
  have hlocks := B.notSynchronized
  have hinX4 : ∀ w ∈ wsX40, w ∈ wsX4_after := fun _ h => List.mem_cons_of_mem _ (List.mem_append_right _ h)
  have hl := lv_entry ([.ref (AB 0), .int (nI a), .int b]) (n := 5) (Nat.le_of_ble_eq_true rfl)
  rw [lg_entry_eq]
  generalize (lg_sl ([.ref (AB 0), .int (nI a), .int b]) ++ List.replicate (5 - (lg_sl ([.ref (AB 0), .int (nI a), .int b])).length) Slot.unset).toArray = ls at hl ⊢
  have hl : lv_has ls 5 [(0, .ref (AB 0)), (1, .int (nI a)), (2, .int b)] := hl
  refine lv_iconst (v := 0) hx hb dX4_after_0 (by decide) ?_
  refine lv_istore_n (lv' := [(3, .int 0), (0, .ref (AB 0)), (1, .int (nI a)), (2, .int b)]) hx hb dX4_after_1 rfl hl (by decide) rfl (fun ls hl => ?_)
  refine lv_iconst (v := 0) hx hb dX4_after_2 (by decide) ?_
  refine lv_istore (lv' := [(4, .int 0), (3, .int 0), (0, .ref (AB 0)), (1, .int (nI a)), (2, .int b)]) hx hb dX4_after_3 hl (by decide) rfl (fun ls hl => ?_)
  refine w_loopP (pc := 5) 16 (fun k ls => lv_has ls 5 [(0, .ref (AB 0)), (1, .int (nI a)), (2, .int b), (3, .int (afN (fun s => nxN τ.2 a s (ef a)) b k)), (4, .int (nI k))]) ?_ 0 (Nat.zero_le _) ls (lv_sub hl [2, 3, 4, 1, 0] rfl)
  intro k ls hk hl ih
  refine lv_iload hx hb dX4_after_5 (lv_at hl 4 rfl) ?_
  refine lv_bipush (v := 16) hx hb dX4_after_7 (by decide) ?_
  refine lv_icmp_ge (tgt := 44) hx hb dX4_after_9 (by decide) (fun c9_0 => ?_) (fun c9_0 => ?_)
  · skip
    obtain rfl := ctr_ge (N := 16) rfl (by decide) hk c9_0
    refine lv_iload_n hx hb dX4_after_44 rfl (lv_at hl 3 rfl) ?_
    exact W.iret hx hb hr (fun t ht hW => ⟨_, rfl, rfl, ht⟩) (fun q h => nomatch h) dX4_after_45
  · skip
    have hlt := ctr_lt (N := 16) rfl (by decide) hk c9_0
    refine lv_iload_n hx hb dX4_after_12 rfl (lv_at hl 3 rfl) ?_
    refine lv_iload_n hx hb dX4_after_13 rfl (lv_at hl 2 rfl) ?_
    refine lv_iload hx hb dX4_after_14 (lv_at hl 4 rfl) ?_
    refine lv_ishr hx hb dX4_after_16 ?_
    refine lv_iconst (v := 1) hx hb dX4_after_17 (by decide) ?_
    refine lv_iand hx hb dX4_after_18 ?_
    refine lv_topi (fun y1 ey1 => ?_)
    obtain rfl : y1 = b2i (bt b k) := ey1.trans (b_shr1 (by omega) b)
    refine lv_iconst (v := 1) hx hb dX4_after_19 (by decide) ?_
    refine lv_icmp_ne (tgt := 35) hx hb dX4_after_20 (by decide) (fun c20_2 => ?_) (fun c20_2 => ?_)
    · skip
      refine lv_iconst (v := 0) hx hb dX4_after_35 (by decide) ?_
      refine lv_ior hx hb dX4_after_36 ?_
      refine lv_istore_n (lv' := [(3, .int ((afN (fun s => nxN τ.2 a s (ef a)) b k) ||| 0)), (0, .ref (AB 0)), (1, .int (nI a)), (2, .int b), (4, .int (nI k))]) hx hb dX4_after_37 rfl hl (by decide) rfl (fun ls hl => ?_)
      obtain ⟨y3, ey3⟩ : ∃ y : Int32, y = (nI k) + 1 := ⟨_, rfl⟩
      refine lv_iinc (v := y3) (lv' := [(4, .int y3), (3, .int ((afN (fun s => nxN τ.2 a s (ef a)) b k) ||| 0)), (0, .ref (AB 0)), (1, .int (nI a)), (2, .int b)]) hx hb dX4_after_38 hl (k := 4) rfl (by rw [ey3]; rfl) (by decide) rfl (fun ls hl => ?_)
      obtain rfl : y3 = nI (k + 1) := ey3.trans (nI_1 k)
      refine lv_goto (tgt := 5) hx hb dX4_after_41 (by decide) ?_
      exact ih ls (by rw [afN, if_neg (by rw [b2i_n1.mp c20_2]; decide), ← b_or0 (afN (fun s => nxN τ.2 a s (ef a)) b k)]; exact lv_sub hl [2, 3, 4, 1, 0] rfl) hlt
    · skip
      refine lv_iconst (v := 1) hx hb dX4_after_23 (by decide) ?_
      refine lv_aload_n hx hb dX4_after_24 rfl (lv_at hl 0 rfl) ?_
      refine lv_iload_n hx hb dX4_after_25 rfl (lv_at hl 1 rfl) ?_
      refine lv_iload hx hb dX4_after_26 (lv_at hl 4 rfl) ?_
      refine vp_callSi (W.runV (As := [.int (nI a), .int (nI k)]) (rest := [.int 1, .int (afN (fun s => nxN τ.2 a s (ef a)) b k)]) ⟨hx, hb, hml, hown, hts⟩ (m_next l dC dI AB cI cZ τ ef ha hef he4 (k := k) hlt) (cwV 2 hts gX4_after_X4_next rfl rfl rfl (by decide +kernel) ⟨Nat.le_of_ble_eq_true rfl, Nat.le_of_ble_eq_true rfl⟩) ⟨bm_P, va_recv hK hP (ci := 4) (q0 := 0) rfl rfl, fun U hU hW => ⟨rfl, by rw [hU]; exact hP, va_K.moved hW.alike hK⟩⟩ rfl rfl hl.1 rfl (lv_room (Nat.le_of_ble_eq_true rfl)) dX4_after_28 ⟨Nat.zero_le _, Nat.zero_le _⟩) (fun r er => ?_)
      obtain rfl : r = nxN τ.2 a k (ef a) := er
      refine lv_ishl hx hb dX4_after_31 ?_
      refine lv_goto (tgt := 36) hx hb dX4_after_32 (by decide) ?_
      refine lv_ior hx hb dX4_after_36 ?_
      refine lv_istore_n (lv' := [(3, .int ((afN (fun s => nxN τ.2 a s (ef a)) b k) ||| (1 <<< ((nxN τ.2 a k (ef a)) &&& 31)))), (0, .ref (AB 0)), (1, .int (nI a)), (2, .int b), (4, .int (nI k))]) hx hb dX4_after_37 rfl hl (by decide) rfl (fun ls hl => ?_)
      obtain ⟨y4, ey4⟩ : ∃ y : Int32, y = (nI k) + 1 := ⟨_, rfl⟩
      refine lv_iinc (v := y4) (lv' := [(4, .int y4), (3, .int ((afN (fun s => nxN τ.2 a s (ef a)) b k) ||| (1 <<< ((nxN τ.2 a k (ef a)) &&& 31)))), (0, .ref (AB 0)), (1, .int (nI a)), (2, .int b)]) hx hb dX4_after_38 hl (k := 4) rfl (by rw [ey4]; rfl) (by decide) rfl (fun ls hl => ?_)
      obtain rfl : y4 = nI (k + 1) := ey4.trans (nI_1 k)
      refine lv_goto (tgt := 5) hx hb dX4_after_41 (by decide) ?_
      exact ih ls (by rw [afN, if_pos (b2i_1.mp c20_2)]; exact lv_sub hl [2, 3, 4, 1, 0] rfl) hlt
set_option maxHeartbeats 4000000 in
set_option maxRecDepth 100000 in
/-- part -/
theorem m_part (l : Launch) (dC : Nat → ClassId) (dI : Nat → Nat → Nat) (AB : Nat → Nat) (cI cZ : ClassId) (τ : MS) (ef : Nat → Nat) {a : Nat} (ha : a < 8) (hef : τ.2 5 a = nI (ef a)) (he4 : ef a ≤ 4) (b w : Int32) : Met l yX4_part wsX4_part ({ frames := 3, cells := 0, slots := 0, locals := 70 }) (va_Pc [.ref (AB 0), .int (nI a), .int b, .int w] (mP dC dI AB cI cZ τ)) (vp_Si (fun r => r = ptR ef τ a b w)) 0 0 (fun _ => False) := by
  refine Met.ofW (cc := cX4_part) (maxL := 7) (ret := (some .int)) (by decide) rfl ?_
  intro p e s m args below meth c s₁ B hml hv
  obtain ⟨rfl, hP, hK⟩ := hv
  have hx := B.exec
  have hb := B.bytes
  have hr := B.returns
  have hts := atoms_spec (ws := wsX4_part) B.pre
  have hown : s.vm.findClass RX4 = some m.cls := findClass_of_methodNamed B.named
  have hlocks := B.notSynchronized
  have hinX4 : ∀ w ∈ wsX40, w ∈ wsX4_part := fun _ h => List.mem_cons_of_mem _ (List.mem_append_right _ h)
  have hl := lv_entry ([.ref (AB 0), .int (nI a), .int b, .int w]) (n := 7) (Nat.le_of_ble_eq_true rfl)
  rw [lg_entry_eq]
  generalize (lg_sl ([.ref (AB 0), .int (nI a), .int b, .int w]) ++ List.replicate (7 - (lg_sl ([.ref (AB 0), .int (nI a), .int b, .int w])).length) Slot.unset).toArray = ls at hl ⊢
  have hl : lv_has ls 7 [(0, .ref (AB 0)), (1, .int (nI a)), (2, .int b), (3, .int w)] := hl
  refine lv_aload_n hx hb dX4_part_0 rfl (lv_at hl 0 rfl) ?_
  refine lv_iload_n hx hb dX4_part_1 rfl (lv_at hl 1 rfl) ?_
  refine lv_iload_n hx hb dX4_part_2 rfl (lv_at hl 2 rfl) ?_
  refine vp_callSi (W.runV (As := [.int (nI a), .int b]) (rest := []) ⟨hx, hb, hml, hown, hts⟩ (m_after l dC dI AB cI cZ τ ef ha hef he4 b) (cwV 2 hts gX4_part_X4_after rfl rfl rfl (by decide +kernel) ⟨Nat.le_of_ble_eq_true rfl, Nat.le_of_ble_eq_true rfl⟩) ⟨bm_P, va_recv hK hP (ci := 4) (q0 := 0) rfl rfl, fun U hU hW => ⟨rfl, by rw [hU]; exact hP, va_K.moved hW.alike hK⟩⟩ rfl rfl hl.1 rfl (lv_room (Nat.le_of_ble_eq_true rfl)) dX4_part_3 ⟨Nat.zero_le _, Nat.zero_le _⟩) (fun r er => ?_)
  obtain rfl : r = afR ef τ a b := er
  refine lv_istore (lv' := [(4, .int (afR ef τ a b)), (0, .ref (AB 0)), (1, .int (nI a)), (2, .int b), (3, .int w)]) hx hb dX4_part_6 hl (by decide) rfl (fun ls hl => ?_)
  refine lv_aload_n hx hb dX4_part_8 rfl (lv_at hl 1 rfl) ?_
  refine va_get (D := (dC, dI)) (ci := 4) (v := .ref (AB 4)) (C := RX4) (T := TX4) (N := 33) hx hb hts hinX4 hown hK hP 0 rfl rfl 4 (by decide) (hts _ (List.mem_of_getElem? (i := 1) rfl)) (fun _ h9 => h9) rfl dX4_part_9 ?_
  refine lv_iload_n hx hb dX4_part_12 rfl (lv_at hl 2 rfl) ?_
  refine va_iald hx hb hK hP 4 0 rfl rfl (vp_in_nI (show a < 8 by omega) (by decide)) dX4_part_13 ?_
  rw [nI_clamp (show a < 2 ^ 31 by have := (show a < 8 by omega); omega)]
  refine lv_if_ge (tgt := 28) hx hb dX4_part_14 (by decide) (fun c14_0 => ?_) (fun c14_0 => ?_)
  · skip
    refine lv_iconst (v := 0) hx hb dX4_part_28 (by decide) ?_
    refine lv_istore (lv' := [(5, .int 0), (4, .int (afR ef τ a b)), (0, .ref (AB 0)), (1, .int (nI a)), (2, .int b), (3, .int w)]) hx hb dX4_part_29 hl (by decide) rfl (fun ls hl => ?_)
    refine lv_iconst (v := 0) hx hb dX4_part_31 (by decide) ?_
    refine lv_istore (lv' := [(6, .int 0), (5, .int 0), (4, .int (afR ef τ a b)), (0, .ref (AB 0)), (1, .int (nI a)), (2, .int b), (3, .int w)]) hx hb dX4_part_32 hl (by decide) rfl (fun ls hl => ?_)
    refine w_loopP (pc := 34) 16 (fun k ls => lv_has ls 7 [(0, .ref (AB 0)), (1, .int (nI a)), (2, .int b), (3, .int w), (4, .int (afR ef τ a b)), (5, .int (mkN (prF (τ.2 4 a) (afR ef τ a b) w) k)), (6, .int (nI k))]) ?_ 0 (Nat.zero_le _) ls (lv_sub hl [3, 4, 5, 6, 2, 1, 0] rfl)
    intro k ls hk hl ih
    refine lv_iload hx hb dX4_part_34 (lv_at hl 6 rfl) ?_
    refine lv_bipush (v := 16) hx hb dX4_part_36 (by decide) ?_
    refine lv_icmp_ge (tgt := 78) hx hb dX4_part_38 (by decide) (fun c38_1 => ?_) (fun c38_1 => ?_)
    · skip
      obtain rfl := ctr_ge (N := 16) rfl (by decide) hk c38_1
      refine lv_iload hx hb dX4_part_78 (lv_at hl 5 rfl) ?_
      exact W.iret hx hb hr (fun t ht hW => ⟨_, rfl, by show _ = ptR ef τ a b w; unfold ptR; rw [if_neg (fun q => q c14_0)], ht⟩) (fun q h => nomatch h) dX4_part_80
    · skip
      have hlt := ctr_lt (N := 16) rfl (by decide) hk c38_1
      refine lv_iload hx hb dX4_part_41 (lv_at hl 5 rfl) ?_
      refine lv_iload hx hb dX4_part_43 (lv_at hl 6 rfl) ?_
      refine lv_aload_n hx hb dX4_part_45 rfl (lv_at hl 0 rfl) ?_
      refine va_get (D := (dC, dI)) (ci := 4) (v := .ref (AB 4)) (C := RX4) (T := TX4) (N := 33) hx hb hts hinX4 hown hK hP 0 rfl rfl 4 (by decide) (hts _ (List.mem_of_getElem? (i := 1) rfl)) (fun _ h9 => h9) rfl dX4_part_46 ?_
      refine lv_iload_n hx hb dX4_part_49 rfl (lv_at hl 1 rfl) ?_
      refine va_iald hx hb hK hP 4 0 rfl rfl (vp_in_nI (show a < 8 by omega) (by decide)) dX4_part_50 ?_
      rw [nI_clamp (show a < 2 ^ 31 by have := (show a < 8 by omega); omega)]
      refine lv_ishr hx hb dX4_part_51 ?_
      refine lv_iconst (v := 1) hx hb dX4_part_52 (by decide) ?_
      refine lv_iand hx hb dX4_part_53 ?_
      refine lv_iload_n hx hb dX4_part_54 rfl (lv_at hl 3 rfl) ?_
      refine lv_icmp_ne (tgt := 68) hx hb dX4_part_55 (by decide) (fun c55_2 => ?_) (fun c55_2 => ?_)
      · skip
        refine lv_iconst (v := 0) hx hb dX4_part_68 (by decide) ?_
        refine lv_ior hx hb dX4_part_69 ?_
        refine lv_istore (lv' := [(5, .int ((mkN (prF (τ.2 4 a) (afR ef τ a b) w) k) ||| 0)), (0, .ref (AB 0)), (1, .int (nI a)), (2, .int b), (3, .int w), (4, .int (afR ef τ a b)), (6, .int (nI k))]) hx hb dX4_part_70 hl (by decide) rfl (fun ls hl => ?_)
        obtain ⟨y3, ey3⟩ : ∃ y : Int32, y = (nI k) + 1 := ⟨_, rfl⟩
        refine lv_iinc (v := y3) (lv' := [(6, .int y3), (5, .int ((mkN (prF (τ.2 4 a) (afR ef τ a b) w) k) ||| 0)), (0, .ref (AB 0)), (1, .int (nI a)), (2, .int b), (3, .int w), (4, .int (afR ef τ a b))]) hx hb dX4_part_72 hl (k := 6) rfl (by rw [ey3]; rfl) (by decide) rfl (fun ls hl => ?_)
        obtain rfl : y3 = nI (k + 1) := ey3.trans (nI_1 k)
        refine lv_goto (tgt := 34) hx hb dX4_part_75 (by decide) ?_
        exact ih ls (by rw [mkN_f (f := (prF (τ.2 4 a) (afR ef τ a b) w)) (n := k) (by unfold prF; rw [decide_eq_false c55_2, Bool.and_false]), ← b_or0 (mkN (prF (τ.2 4 a) (afR ef τ a b) w) k)]; exact lv_sub hl [2, 3, 4, 5, 6, 1, 0] rfl) hlt
      · skip
        refine lv_iload hx hb dX4_part_58 (lv_at hl 4 rfl) ?_
        refine lv_iconst (v := 1) hx hb dX4_part_60 (by decide) ?_
        refine lv_iload hx hb dX4_part_61 (lv_at hl 6 rfl) ?_
        refine lv_ishl hx hb dX4_part_63 ?_
        refine lv_iand hx hb dX4_part_64 ?_
        refine lv_goto (tgt := 69) hx hb dX4_part_65 (by decide) ?_
        refine lv_ior hx hb dX4_part_69 ?_
        refine lv_istore (lv' := [(5, .int ((mkN (prF (τ.2 4 a) (afR ef τ a b) w) k) ||| ((afR ef τ a b) &&& (1 <<< ((nI k) &&& 31))))), (0, .ref (AB 0)), (1, .int (nI a)), (2, .int b), (3, .int w), (4, .int (afR ef τ a b)), (6, .int (nI k))]) hx hb dX4_part_70 hl (by decide) rfl (fun ls hl => ?_)
        obtain ⟨y4, ey4⟩ : ∃ y : Int32, y = (nI k) + 1 := ⟨_, rfl⟩
        refine lv_iinc (v := y4) (lv' := [(6, .int y4), (5, .int ((mkN (prF (τ.2 4 a) (afR ef τ a b) w) k) ||| ((afR ef τ a b) &&& (1 <<< ((nI k) &&& 31))))), (0, .ref (AB 0)), (1, .int (nI a)), (2, .int b), (3, .int w), (4, .int (afR ef τ a b))]) hx hb dX4_part_72 hl (k := 6) rfl (by rw [ey4]; rfl) (by decide) rfl (fun ls hl => ?_)
        obtain rfl : y4 = nI (k + 1) := ey4.trans (nI_1 k)
        refine lv_goto (tgt := 34) hx hb dX4_part_75 (by decide) ?_
        exact ih ls (by rw [show mkN (prF (τ.2 4 a) (afR ef τ a b) w) (k + 1) = mkN (prF (τ.2 4 a) (afR ef τ a b) w) k ||| (afR ef τ a b &&& ((1 : Int32) <<< (nI k &&& 31))) from by rw [and_bit (by omega)]; cases hq : bt (afR ef τ a b) k with | true => rw [if_pos rfl]; exact mkN_t (by unfold prF; rw [hq, decide_eq_true c55_2]; rfl) | false => rw [if_neg (by decide), b_or0]; exact mkN_f (by unfold prF; rw [hq]; rfl)]; exact lv_sub hl [2, 3, 4, 5, 6, 1, 0] rfl) hlt
  · skip
    refine lv_iload_n hx hb dX4_part_17 rfl (lv_at hl 4 rfl) ?_
    refine lv_if_ne (tgt := 26) hx hb dX4_part_18 (by decide) (fun c18_5 => ?_) (fun c18_5 => ?_)
    · skip
      refine lv_iconst (v := 0) hx hb dX4_part_26 (by decide) ?_
      exact W.iret hx hb hr (fun t ht hW => ⟨_, rfl, by show _ = ptR ef τ a b w; unfold ptR; rw [if_pos c14_0, if_neg c18_5], ht⟩) (fun q h => nomatch h) dX4_part_27
    · skip
      refine lv_iload hx hb dX4_part_21 (lv_at hl 0 rfl) ?_
      refine lv_goto (tgt := 27) hx hb dX4_part_23 (by decide) ?_
      exact W.iret hx hb hr (fun t ht hW => ⟨_, rfl, by show _ = ptR ef τ a b w; unfold ptR; rw [if_pos c14_0, if_pos c18_5], ht⟩) (fun q h => nomatch h) dX4_part_27
set_option maxHeartbeats 4000000 in
set_option maxRecDepth 100000 in
/-- reached -/
theorem m_reached (l : Launch) (dC : Nat → ClassId) (dI : Nat → Nat → Nat) (AB : Nat → Nat) (cI cZ : ClassId) (τ : MS) (b : Int32) : Met l yX4_reached wsX4_reached ({ frames := 1, cells := 0, slots := 0, locals := 22 }) (va_Pc [.ref (AB 0), .int b] (mP dC dI AB cI cZ τ)) (vp_Si (fun r => r = b2i (reR τ b))) 0 0 (fun _ => False) := by
  refine Met.ofW (cc := cX4_reached) (maxL := 4) (ret := (some .boolean)) (by decide) rfl ?_
  intro p e s m args below meth c s₁ B hml hv
  obtain ⟨rfl, hP, hK⟩ := hv
  have hx := B.exec
  have hb := B.bytes
  have hr := B.returns
  have hts := atoms_spec (ws := wsX4_reached) B.pre
  have hown : s.vm.findClass RX4 = some m.cls := findClass_of_methodNamed B.named
  have hlocks := B.notSynchronized
  have hinX4 : ∀ w ∈ wsX40, w ∈ wsX4_reached := fun _ h => List.mem_cons_of_mem _ (List.mem_append_right _ h)
  have hl := lv_entry ([.ref (AB 0), .int b]) (n := 4) (Nat.le_of_ble_eq_true rfl)
  rw [lg_entry_eq]
  generalize (lg_sl ([.ref (AB 0), .int b]) ++ List.replicate (4 - (lg_sl ([.ref (AB 0), .int b])).length) Slot.unset).toArray = ls at hl ⊢
  have hl : lv_has ls 4 [(0, .ref (AB 0)), (1, .int b)] := hl
  refine lv_iconst (v := 1) hx hb dX4_reached_0 (by decide) ?_
  refine lv_istore_n (lv' := [(2, .int 1), (0, .ref (AB 0)), (1, .int b)]) hx hb dX4_reached_1 rfl hl (by decide) rfl (fun ls hl => ?_)
  refine lv_iconst (v := 0) hx hb dX4_reached_2 (by decide) ?_
  refine lv_istore_n (lv' := [(3, .int 0), (2, .int 1), (0, .ref (AB 0)), (1, .int b)]) hx hb dX4_reached_3 rfl hl (by decide) rfl (fun ls hl => ?_)
  refine w_loopP (pc := 4) 16 (fun k ls => lv_has ls 4 [(0, .ref (AB 0)), (1, .int b), (2, .int (b2i (allN (reP τ b) k))), (3, .int (nI k))]) ?_ 0 (Nat.zero_le _) ls (lv_sub hl [2, 3, 1, 0] rfl)
  intro k ls hk hl ih
  refine lv_iload_n hx hb dX4_reached_4 rfl (lv_at hl 3 rfl) ?_
  refine lv_bipush (v := 16) hx hb dX4_reached_5 (by decide) ?_
  refine lv_icmp_ge (tgt := 49) hx hb dX4_reached_7 (by decide) (fun c7_0 => ?_) (fun c7_0 => ?_)
  · skip
    obtain rfl := ctr_ge (N := 16) rfl (by decide) hk c7_0
    refine lv_iload_n hx hb dX4_reached_49 rfl (lv_at hl 2 rfl) ?_
    exact W.zret hx hb hr (b2i_nar _) (fun t ht hW => ⟨_, rfl, rfl, ht⟩) (fun q h => nomatch h) dX4_reached_50
  · skip
    have hlt := ctr_lt (N := 16) rfl (by decide) hk c7_0
    refine lv_iload_n hx hb dX4_reached_10 rfl (lv_at hl 2 rfl) ?_
    refine lv_if_eq (tgt := 41) hx hb dX4_reached_11 (by decide) (fun c11_1 => ?_) (fun c11_1 => ?_)
    · skip
      refine lv_iconst (v := 0) hx hb dX4_reached_41 (by decide) ?_
      refine lv_istore_n (lv' := [(2, .int 0), (0, .ref (AB 0)), (1, .int b), (3, .int (nI k))]) hx hb dX4_reached_42 rfl hl (by decide) rfl (fun ls hl => ?_)
      obtain ⟨y2, ey2⟩ : ∃ y : Int32, y = (nI k) + 1 := ⟨_, rfl⟩
      refine lv_iinc (v := y2) (lv' := [(3, .int y2), (2, .int 0), (0, .ref (AB 0)), (1, .int b)]) hx hb dX4_reached_43 hl (k := 3) rfl (by rw [ey2]; rfl) (by decide) rfl (fun ls hl => ?_)
      obtain rfl : y2 = nI (k + 1) := ey2.trans (nI_1 k)
      refine lv_goto (tgt := 4) hx hb dX4_reached_46 (by decide) ?_
      exact ih ls (by rw [show b2i (allN (reP τ b) (k + 1)) = 0 from by show b2i (_ && _) = _; rw [b2i_0.mp c11_1]; rfl]; exact lv_sub hl [2, 3, 1, 0] rfl) hlt
    · skip
      refine lv_iload_n hx hb dX4_reached_14 rfl (lv_at hl 1 rfl) ?_
      refine lv_iload_n hx hb dX4_reached_15 rfl (lv_at hl 3 rfl) ?_
      refine lv_ishr hx hb dX4_reached_16 ?_
      refine lv_iconst (v := 1) hx hb dX4_reached_17 (by decide) ?_
      refine lv_iand hx hb dX4_reached_18 ?_
      refine lv_topi (fun y3 ey3 => ?_)
      obtain rfl : y3 = b2i (bt b k) := ey3.trans (b_shr1 (by omega) b)
      refine lv_if_eq (tgt := 37) hx hb dX4_reached_19 (by decide) (fun c19_4 => ?_) (fun c19_4 => ?_)
      · skip
        refine lv_iconst (v := 1) hx hb dX4_reached_37 (by decide) ?_
        refine lv_goto (tgt := 42) hx hb dX4_reached_38 (by decide) ?_
        refine lv_istore_n (lv' := [(2, .int 1), (0, .ref (AB 0)), (1, .int b), (3, .int (nI k))]) hx hb dX4_reached_42 rfl hl (by decide) rfl (fun ls hl => ?_)
        obtain ⟨y5, ey5⟩ : ∃ y : Int32, y = (nI k) + 1 := ⟨_, rfl⟩
        refine lv_iinc (v := y5) (lv' := [(3, .int y5), (2, .int 1), (0, .ref (AB 0)), (1, .int b)]) hx hb dX4_reached_43 hl (k := 3) rfl (by rw [ey5]; rfl) (by decide) rfl (fun ls hl => ?_)
        obtain rfl : y5 = nI (k + 1) := ey5.trans (nI_1 k)
        refine lv_goto (tgt := 4) hx hb dX4_reached_46 (by decide) ?_
        exact ih ls (by rw [show b2i (allN (reP τ b) (k + 1)) = 1 from by show b2i (_ && _) = _; rw [b2i_n0.mp c11_1, show reP τ b k = true from by unfold reP; rw [b2i_0.mp c19_4]; rfl]; rfl]; exact lv_sub hl [2, 3, 1, 0] rfl) hlt
      · skip
        refine lv_aload_n hx hb dX4_reached_22 rfl (lv_at hl 0 rfl) ?_
        refine va_get (D := (dC, dI)) (ci := 4) (v := .int (τ.1 13)) (C := RX4) (T := TX4) (N := 33) hx hb hts hinX4 hown hK hP 0 rfl rfl 13 (by decide) (hts _ (List.mem_of_getElem? (i := 1) rfl)) (fun _ h9 => h9) rfl dX4_reached_23 ?_
        refine lv_aload_n hx hb dX4_reached_26 rfl (lv_at hl 0 rfl) ?_
        refine va_get (D := (dC, dI)) (ci := 4) (v := .int (τ.1 14)) (C := RX4) (T := TX4) (N := 33) hx hb hts hinX4 hown hK hP 0 rfl rfl 14 (by decide) (hts _ (List.mem_of_getElem? (i := 2) rfl)) (fun _ h9 => h9) rfl dX4_reached_27 ?_
        refine lv_iload_n hx hb dX4_reached_30 rfl (lv_at hl 3 rfl) ?_
        refine vp_callSi (W.runS (As := [.int (τ.1 13), .int (τ.1 14), .int (nI k)]) (rest := []) ⟨hx, hb, hml, hown, hts⟩ (m_holds l (τ.1 13) (τ.1 14) k) (va_cwS 3 hts gX4_reached_X4_holds rfl rfl rfl (by decide +kernel) ⟨Nat.le_of_ble_eq_true rfl, Nat.le_of_ble_eq_true rfl⟩) ⟨bl_T, fun U hU hW => ⟨rfl, trivial⟩⟩ rfl rfl hl.1 rfl (lv_room (Nat.le_of_ble_eq_true rfl)) dX4_reached_31 ⟨Nat.zero_le _, Nat.zero_le _⟩) (fun r er => ?_)
        obtain rfl : r = b2i (demF (τ.1 13) (τ.1 14) k) := er
        refine lv_if_eq (tgt := 41) hx hb dX4_reached_34 (by decide) (fun c34_6 => ?_) (fun c34_6 => ?_)
        · skip
          refine lv_iconst (v := 0) hx hb dX4_reached_41 (by decide) ?_
          refine lv_istore_n (lv' := [(2, .int 0), (0, .ref (AB 0)), (1, .int b), (3, .int (nI k))]) hx hb dX4_reached_42 rfl hl (by decide) rfl (fun ls hl => ?_)
          obtain ⟨y7, ey7⟩ : ∃ y : Int32, y = (nI k) + 1 := ⟨_, rfl⟩
          refine lv_iinc (v := y7) (lv' := [(3, .int y7), (2, .int 0), (0, .ref (AB 0)), (1, .int b)]) hx hb dX4_reached_43 hl (k := 3) rfl (by rw [ey7]; rfl) (by decide) rfl (fun ls hl => ?_)
          obtain rfl : y7 = nI (k + 1) := ey7.trans (nI_1 k)
          refine lv_goto (tgt := 4) hx hb dX4_reached_46 (by decide) ?_
          exact ih ls (by rw [show b2i (allN (reP τ b) (k + 1)) = 0 from by show b2i (_ && _) = _; rw [b2i_n0.mp c11_1, show reP τ b k = false from by unfold reP; rw [b2i_n0.mp c19_4, b2i_0.mp c34_6]; rfl]; rfl]; exact lv_sub hl [2, 3, 1, 0] rfl) hlt
        · skip
          refine lv_iconst (v := 1) hx hb dX4_reached_37 (by decide) ?_
          refine lv_goto (tgt := 42) hx hb dX4_reached_38 (by decide) ?_
          refine lv_istore_n (lv' := [(2, .int 1), (0, .ref (AB 0)), (1, .int b), (3, .int (nI k))]) hx hb dX4_reached_42 rfl hl (by decide) rfl (fun ls hl => ?_)
          obtain ⟨y8, ey8⟩ : ∃ y : Int32, y = (nI k) + 1 := ⟨_, rfl⟩
          refine lv_iinc (v := y8) (lv' := [(3, .int y8), (2, .int 1), (0, .ref (AB 0)), (1, .int b)]) hx hb dX4_reached_43 hl (k := 3) rfl (by rw [ey8]; rfl) (by decide) rfl (fun ls hl => ?_)
          obtain rfl : y8 = nI (k + 1) := ey8.trans (nI_1 k)
          refine lv_goto (tgt := 4) hx hb dX4_reached_46 (by decide) ?_
          exact ih ls (by rw [show b2i (allN (reP τ b) (k + 1)) = 1 from by show b2i (_ && _) = _; rw [b2i_n0.mp c11_1, show reP τ b k = true from by unfold reP; rw [b2i_n0.mp c19_4, b2i_n0.mp c34_6]; rfl]; rfl]; exact lv_sub hl [2, 3, 1, 0] rfl) hlt
