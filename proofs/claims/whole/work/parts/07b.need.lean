set_option maxHeartbeats 4000000 in
set_option maxRecDepth 100000 in
/-- needNumber: passed -/
theorem k_X3_needNumber (l : Launch) (x : Int32) (hok : ¬ x < 0 ∧ x < 8) : Met l yX3_needNumber wsX3_needNumber ({ frames := 0, cells := 0, slots := 0, locals := 0 }) (va_Pc [.int x] (fun _ => True)) (va_Sv (fun _ => True)) 0 0 (fun _ => False) := by
  refine Met.ofW (cc := cX3_needNumber) (maxL := 1) (ret := none) (by decide) rfl ?_
  intro p e s m args below meth c s₁ B hml hv
  obtain ⟨rfl, -⟩ := hv
  have hx := B.exec
  have hb := B.bytes
  have hr := B.returns
  have hts := atoms_spec (ws := wsX3_needNumber) B.pre
  have hown : s.vm.findClass RX3 = some m.cls := findClass_of_methodNamed B.named
  have hlocks := B.notSynchronized
  have hl := lv_entry ([.int x]) (n := 1) (Nat.le_of_ble_eq_true rfl)
  rw [lg_entry_eq]
  generalize (lg_sl ([.int x]) ++ List.replicate (1 - (lg_sl ([.int x])).length) Slot.unset).toArray = ls at hl ⊢
  have hl : lv_has ls 1 [(0, .int x)] := hl
  refine lv_iload_n hx hb dX3_needNumber_0 rfl (lv_at hl 0 rfl) ?_
  refine lv_if_lt (tgt := 10) hx hb dX3_needNumber_1 (by decide) (fun c1_0 => ?_) (fun c1_0 => ?_)
  · exact absurd c1_0 hok.1
  · skip
    refine lv_iload_n hx hb dX3_needNumber_4 rfl (lv_at hl 0 rfl) ?_
    refine lv_bipush (v := 8) hx hb dX3_needNumber_5 (by decide) ?_
    refine lv_icmp_lt (tgt := 20) hx hb dX3_needNumber_7 (by decide) (fun c7_1 => ?_) (fun c7_1 => ?_)
    · skip
      exact W.vret hx hb hr (fun t ht hW => ⟨rfl, trivial, ht⟩) (fun q h => nomatch h) dX3_needNumber_20
    · exact absurd hok.2 c7_1
set_option maxHeartbeats 4000000 in
set_option maxRecDepth 100000 in
/-- needNumber: it throws -/
theorem x_X3_needNumber (l : Launch) (dC : Nat → ClassId) (dI : Nat → Nat → Nat) (cI cQ : ClassId) (hlt : l.stackTraces = false) (sz : Nat) (x : Int32) (hok : x < 0 ∨ ¬ x < 8) : vx_Met l yX3_needNumber wsX3_needNumber ({ frames := 6, cells := 1, slots := 6, locals := 82 }) (va_Pc [.int x] (PTs dC dI cI cQ sz)) (qvE sz) (xcE sz nIO) 1 6 (fun q => sz ≤ q) := by
  refine vx_ofW (cc := cX3_needNumber) (maxL := 1) (ret := none) (by decide) rfl ?_
  intro p e s m args below meth c s₁ B hml hnt hv
  obtain ⟨rfl, hsz, hX, hH⟩ := hv
  subst hsz
  have hx := B.exec
  have hb := B.bytes
  have hr := B.returns
  have hts := atoms_spec (ws := wsX3_needNumber) B.pre
  have hown : s.vm.findClass RX3 = some m.cls := findClass_of_methodNamed B.named
  have hlocks := B.notSynchronized
  have hK := hX.1
  have hl := lv_entry ([.int x]) (n := 1) (Nat.le_of_ble_eq_true rfl)
  rw [lg_entry_eq]
  generalize (lg_sl ([.int x]) ++ List.replicate (1 - (lg_sl ([.int x])).length) Slot.unset).toArray = ls at hl ⊢
  have hl : lv_has ls 1 [(0, .int x)] := hl
  refine lv_iload_n hx hb dX3_needNumber_0 rfl (lv_at hl 0 rfl) ?_
  refine lv_if_lt (tgt := 10) hx hb dX3_needNumber_1 (by decide) (fun c1_0 => ?_) (fun c1_0 => ?_)
  · skip
    obtain ⟨sa, hsa⟩ := hX.2.2 (199, "no such number of an action") (List.mem_of_getElem? (i := 0) rfl)
    exact vx_throwS (A := fun q => s.heap.size ≤ q) (cls := nIO) (text := "no such number of an action") (names := upE) hx hb hlt hown (by decide +kernel) (by decide +kernel) (hts _ (List.mem_of_getElem? (i := 1) rfl)) (hts _ (List.mem_of_getElem? (i := 2) rfl)) hsa (vx_hat (fun w h => hts w (List.mem_cons_of_mem _ (List.mem_append_right _ h))) xbIO (hX.xb _)) goIO hH.1 hH.2.1 va_S.rf (hl.1.trans hml.symm) dX3_needNumber_10 dX3_needNumber_13 dX3_needNumber_14 dX3_needNumber_16 dX3_needNumber_19 (fun x hx => (hnt x hx).elim) (show 2 + 3 < 6 by omega) (show _ + (13 * (2 + 1) + 43) ≤ 82 by first | decide | (simp only [List.map_cons, List.map_nil, List.sum_cons, List.sum_nil, Value.category]; omega)) (show 0 + 1 ≤ 1 by decide) (show 0 + 6 ≤ 6 by decide) hlocks (fun t _ hz hk => ⟨(), trivial, rfl, hz, fun q hq _ => hk q hq⟩) (fun z h => nomatch h) (show 0 + 1 ≤ 1 by decide) (show 0 + 6 ≤ 6 by decide)
  · skip
    refine lv_iload_n hx hb dX3_needNumber_4 rfl (lv_at hl 0 rfl) ?_
    refine lv_bipush (v := 8) hx hb dX3_needNumber_5 (by decide) ?_
    refine lv_icmp_lt (tgt := 20) hx hb dX3_needNumber_7 (by decide) (fun c7_1 => ?_) (fun c7_1 => ?_)
    · exact absurd hok (by rintro (z | z); exact c1_0 z; exact z c7_1)
    · skip
      obtain ⟨sa, hsa⟩ := hX.2.2 (199, "no such number of an action") (List.mem_of_getElem? (i := 0) rfl)
      exact vx_throwS (A := fun q => s.heap.size ≤ q) (cls := nIO) (text := "no such number of an action") (names := upE) hx hb hlt hown (by decide +kernel) (by decide +kernel) (hts _ (List.mem_of_getElem? (i := 1) rfl)) (hts _ (List.mem_of_getElem? (i := 2) rfl)) hsa (vx_hat (fun w h => hts w (List.mem_cons_of_mem _ (List.mem_append_right _ h))) xbIO (hX.xb _)) goIO hH.1 hH.2.1 va_S.rf (hl.1.trans hml.symm) dX3_needNumber_10 dX3_needNumber_13 dX3_needNumber_14 dX3_needNumber_16 dX3_needNumber_19 (fun x hx => (hnt x hx).elim) (show 2 + 3 < 6 by omega) (show _ + (13 * (2 + 1) + 43) ≤ 82 by first | decide | (simp only [List.map_cons, List.map_nil, List.sum_cons, List.sum_nil, Value.category]; omega)) (show 0 + 1 ≤ 1 by decide) (show 0 + 6 ≤ 6 by decide) hlocks (fun t _ hz hk => ⟨(), trivial, rfl, hz, fun q hq _ => hk q hq⟩) (fun z h => nomatch h) (show 0 + 1 ≤ 1 by decide) (show 0 + 6 ≤ 6 by decide)
set_option maxHeartbeats 4000000 in
set_option maxRecDepth 100000 in
/-- needBits: passed -/
theorem k_X3_needBits (l : Launch) (x z : Int32) (hok : (¬ x < 0 ∧ x ≤ 15) ∧ ¬ z < 0 ∧ z ≤ 15) : Met l yX3_needBits wsX3_needBits ({ frames := 0, cells := 0, slots := 0, locals := 0 }) (va_Pc [.int x, .int z] (fun _ => True)) (va_Sv (fun _ => True)) 0 0 (fun _ => False) := by
  refine Met.ofW (cc := cX3_needBits) (maxL := 2) (ret := none) (by decide) rfl ?_
  intro p e s m args below meth c s₁ B hml hv
  obtain ⟨rfl, -⟩ := hv
  have hx := B.exec
  have hb := B.bytes
  have hr := B.returns
  have hts := atoms_spec (ws := wsX3_needBits) B.pre
  have hown : s.vm.findClass RX3 = some m.cls := findClass_of_methodNamed B.named
  have hlocks := B.notSynchronized
  have hl := lv_entry ([.int x, .int z]) (n := 2) (Nat.le_of_ble_eq_true rfl)
  rw [lg_entry_eq]
  generalize (lg_sl ([.int x, .int z]) ++ List.replicate (2 - (lg_sl ([.int x, .int z])).length) Slot.unset).toArray = ls at hl ⊢
  have hl : lv_has ls 2 [(0, .int x), (1, .int z)] := hl
  refine lv_iload_n hx hb dX3_needBits_0 rfl (lv_at hl 0 rfl) ?_
  refine lv_if_lt (tgt := 20) hx hb dX3_needBits_1 (by decide) (fun c1_0 => ?_) (fun c1_0 => ?_)
  · exact absurd c1_0 hok.1.1
  · skip
    refine lv_iload_n hx hb dX3_needBits_4 rfl (lv_at hl 0 rfl) ?_
    refine lv_bipush (v := 15) hx hb dX3_needBits_5 (by decide) ?_
    refine lv_icmp_gt (tgt := 20) hx hb dX3_needBits_7 (by decide) (fun c7_1 => ?_) (fun c7_1 => ?_)
    · exact absurd hok.1.2 (Int32.not_le.mpr c7_1)
    · skip
      refine lv_iload_n hx hb dX3_needBits_10 rfl (lv_at hl 1 rfl) ?_
      refine lv_if_lt (tgt := 20) hx hb dX3_needBits_11 (by decide) (fun c11_2 => ?_) (fun c11_2 => ?_)
      · exact absurd c11_2 hok.2.1
      · skip
        refine lv_iload_n hx hb dX3_needBits_14 rfl (lv_at hl 1 rfl) ?_
        refine lv_bipush (v := 15) hx hb dX3_needBits_15 (by decide) ?_
        refine lv_icmp_le (tgt := 30) hx hb dX3_needBits_17 (by decide) (fun c17_3 => ?_) (fun c17_3 => ?_)
        · skip
          exact W.vret hx hb hr (fun t ht hW => ⟨rfl, trivial, ht⟩) (fun q h => nomatch h) dX3_needBits_30
        · exact absurd hok.2.2 c17_3
set_option maxHeartbeats 4000000 in
set_option maxRecDepth 100000 in
/-- needBits: it throws -/
theorem x_X3_needBits (l : Launch) (dC : Nat → ClassId) (dI : Nat → Nat → Nat) (cI cQ : ClassId) (hlt : l.stackTraces = false) (sz : Nat) (x z : Int32) (hok : ¬ ((¬ x < 0 ∧ x ≤ 15) ∧ ¬ z < 0 ∧ z ≤ 15)) : vx_Met l yX3_needBits wsX3_needBits ({ frames := 6, cells := 1, slots := 6, locals := 82 }) (va_Pc [.int x, .int z] (PTs dC dI cI cQ sz)) (qvE sz) (xcE sz nIA) 1 6 (fun q => sz ≤ q) := by
  refine vx_ofW (cc := cX3_needBits) (maxL := 2) (ret := none) (by decide) rfl ?_
  intro p e s m args below meth c s₁ B hml hnt hv
  obtain ⟨rfl, hsz, hX, hH⟩ := hv
  subst hsz
  have hx := B.exec
  have hb := B.bytes
  have hr := B.returns
  have hts := atoms_spec (ws := wsX3_needBits) B.pre
  have hown : s.vm.findClass RX3 = some m.cls := findClass_of_methodNamed B.named
  have hlocks := B.notSynchronized
  have hK := hX.1
  have hl := lv_entry ([.int x, .int z]) (n := 2) (Nat.le_of_ble_eq_true rfl)
  rw [lg_entry_eq]
  generalize (lg_sl ([.int x, .int z]) ++ List.replicate (2 - (lg_sl ([.int x, .int z])).length) Slot.unset).toArray = ls at hl ⊢
  have hl : lv_has ls 2 [(0, .int x), (1, .int z)] := hl
  refine lv_iload_n hx hb dX3_needBits_0 rfl (lv_at hl 0 rfl) ?_
  refine lv_if_lt (tgt := 20) hx hb dX3_needBits_1 (by decide) (fun c1_0 => ?_) (fun c1_0 => ?_)
  · skip
    obtain ⟨sa, hsa⟩ := hX.2.2 (203, "not bits of the facts") (List.mem_of_getElem? (i := 1) rfl)
    exact vx_throwS (A := fun q => s.heap.size ≤ q) (cls := nIA) (text := "not bits of the facts") (names := upE) hx hb hlt hown (by decide +kernel) (by decide +kernel) (hts _ (List.mem_of_getElem? (i := 1) rfl)) (hts _ (List.mem_of_getElem? (i := 2) rfl)) hsa (vx_hat (fun w h => hts w (List.mem_cons_of_mem _ (List.mem_append_right _ h))) xbIA (hX.xb _)) goIA hH.1 hH.2.1 va_S.rf (hl.1.trans hml.symm) dX3_needBits_20 dX3_needBits_23 dX3_needBits_24 dX3_needBits_26 dX3_needBits_29 (fun x hx => (hnt x hx).elim) (show 2 + 3 < 6 by omega) (show _ + (13 * (2 + 1) + 43) ≤ 82 by first | decide | (simp only [List.map_cons, List.map_nil, List.sum_cons, List.sum_nil, Value.category]; omega)) (show 0 + 1 ≤ 1 by decide) (show 0 + 6 ≤ 6 by decide) hlocks (fun t _ hz hk => ⟨(), trivial, rfl, hz, fun q hq _ => hk q hq⟩) (fun z h => nomatch h) (show 0 + 1 ≤ 1 by decide) (show 0 + 6 ≤ 6 by decide)
  · skip
    refine lv_iload_n hx hb dX3_needBits_4 rfl (lv_at hl 0 rfl) ?_
    refine lv_bipush (v := 15) hx hb dX3_needBits_5 (by decide) ?_
    refine lv_icmp_gt (tgt := 20) hx hb dX3_needBits_7 (by decide) (fun c7_1 => ?_) (fun c7_1 => ?_)
    · skip
      obtain ⟨sa, hsa⟩ := hX.2.2 (203, "not bits of the facts") (List.mem_of_getElem? (i := 1) rfl)
      exact vx_throwS (A := fun q => s.heap.size ≤ q) (cls := nIA) (text := "not bits of the facts") (names := upE) hx hb hlt hown (by decide +kernel) (by decide +kernel) (hts _ (List.mem_of_getElem? (i := 1) rfl)) (hts _ (List.mem_of_getElem? (i := 2) rfl)) hsa (vx_hat (fun w h => hts w (List.mem_cons_of_mem _ (List.mem_append_right _ h))) xbIA (hX.xb _)) goIA hH.1 hH.2.1 va_S.rf (hl.1.trans hml.symm) dX3_needBits_20 dX3_needBits_23 dX3_needBits_24 dX3_needBits_26 dX3_needBits_29 (fun x hx => (hnt x hx).elim) (show 2 + 3 < 6 by omega) (show _ + (13 * (2 + 1) + 43) ≤ 82 by first | decide | (simp only [List.map_cons, List.map_nil, List.sum_cons, List.sum_nil, Value.category]; omega)) (show 0 + 1 ≤ 1 by decide) (show 0 + 6 ≤ 6 by decide) hlocks (fun t _ hz hk => ⟨(), trivial, rfl, hz, fun q hq _ => hk q hq⟩) (fun z h => nomatch h) (show 0 + 1 ≤ 1 by decide) (show 0 + 6 ≤ 6 by decide)
    · skip
      refine lv_iload_n hx hb dX3_needBits_10 rfl (lv_at hl 1 rfl) ?_
      refine lv_if_lt (tgt := 20) hx hb dX3_needBits_11 (by decide) (fun c11_2 => ?_) (fun c11_2 => ?_)
      · skip
        obtain ⟨sa, hsa⟩ := hX.2.2 (203, "not bits of the facts") (List.mem_of_getElem? (i := 1) rfl)
        exact vx_throwS (A := fun q => s.heap.size ≤ q) (cls := nIA) (text := "not bits of the facts") (names := upE) hx hb hlt hown (by decide +kernel) (by decide +kernel) (hts _ (List.mem_of_getElem? (i := 1) rfl)) (hts _ (List.mem_of_getElem? (i := 2) rfl)) hsa (vx_hat (fun w h => hts w (List.mem_cons_of_mem _ (List.mem_append_right _ h))) xbIA (hX.xb _)) goIA hH.1 hH.2.1 va_S.rf (hl.1.trans hml.symm) dX3_needBits_20 dX3_needBits_23 dX3_needBits_24 dX3_needBits_26 dX3_needBits_29 (fun x hx => (hnt x hx).elim) (show 2 + 3 < 6 by omega) (show _ + (13 * (2 + 1) + 43) ≤ 82 by first | decide | (simp only [List.map_cons, List.map_nil, List.sum_cons, List.sum_nil, Value.category]; omega)) (show 0 + 1 ≤ 1 by decide) (show 0 + 6 ≤ 6 by decide) hlocks (fun t _ hz hk => ⟨(), trivial, rfl, hz, fun q hq _ => hk q hq⟩) (fun z h => nomatch h) (show 0 + 1 ≤ 1 by decide) (show 0 + 6 ≤ 6 by decide)
      · skip
        refine lv_iload_n hx hb dX3_needBits_14 rfl (lv_at hl 1 rfl) ?_
        refine lv_bipush (v := 15) hx hb dX3_needBits_15 (by decide) ?_
        refine lv_icmp_le (tgt := 30) hx hb dX3_needBits_17 (by decide) (fun c17_3 => ?_) (fun c17_3 => ?_)
        · exact absurd ⟨⟨c1_0, Int32.not_lt.mp c7_1⟩, c11_2, c17_3⟩ hok
        · skip
          obtain ⟨sa, hsa⟩ := hX.2.2 (203, "not bits of the facts") (List.mem_of_getElem? (i := 1) rfl)
          exact vx_throwS (A := fun q => s.heap.size ≤ q) (cls := nIA) (text := "not bits of the facts") (names := upE) hx hb hlt hown (by decide +kernel) (by decide +kernel) (hts _ (List.mem_of_getElem? (i := 1) rfl)) (hts _ (List.mem_of_getElem? (i := 2) rfl)) hsa (vx_hat (fun w h => hts w (List.mem_cons_of_mem _ (List.mem_append_right _ h))) xbIA (hX.xb _)) goIA hH.1 hH.2.1 va_S.rf (hl.1.trans hml.symm) dX3_needBits_20 dX3_needBits_23 dX3_needBits_24 dX3_needBits_26 dX3_needBits_29 (fun x hx => (hnt x hx).elim) (show 2 + 3 < 6 by omega) (show _ + (13 * (2 + 1) + 43) ≤ 82 by first | decide | (simp only [List.map_cons, List.map_nil, List.sum_cons, List.sum_nil, Value.category]; omega)) (show 0 + 1 ≤ 1 by decide) (show 0 + 6 ≤ 6 by decide) hlocks (fun t _ hz hk => ⟨(), trivial, rfl, hz, fun q hq _ => hk q hq⟩) (fun z h => nomatch h) (show 0 + 1 ≤ 1 by decide) (show 0 + 6 ≤ 6 by decide)
set_option maxHeartbeats 4000000 in
set_option maxRecDepth 100000 in
/-- needDepth: passed -/
theorem k_X3_needDepth (l : Launch) (x : Int32) (hok : ¬ x < 0 ∧ x ≤ 4) : Met l yX3_needDepth wsX3_needDepth ({ frames := 0, cells := 0, slots := 0, locals := 0 }) (va_Pc [.int x] (fun _ => True)) (va_Sv (fun _ => True)) 0 0 (fun _ => False) := by
  refine Met.ofW (cc := cX3_needDepth) (maxL := 1) (ret := none) (by decide) rfl ?_
  intro p e s m args below meth c s₁ B hml hv
  obtain ⟨rfl, -⟩ := hv
  have hx := B.exec
  have hb := B.bytes
  have hr := B.returns
  have hts := atoms_spec (ws := wsX3_needDepth) B.pre
  have hown : s.vm.findClass RX3 = some m.cls := findClass_of_methodNamed B.named
  have hlocks := B.notSynchronized
  have hl := lv_entry ([.int x]) (n := 1) (Nat.le_of_ble_eq_true rfl)
  rw [lg_entry_eq]
  generalize (lg_sl ([.int x]) ++ List.replicate (1 - (lg_sl ([.int x])).length) Slot.unset).toArray = ls at hl ⊢
  have hl : lv_has ls 1 [(0, .int x)] := hl
  refine lv_iload_n hx hb dX3_needDepth_0 rfl (lv_at hl 0 rfl) ?_
  refine lv_if_lt (tgt := 9) hx hb dX3_needDepth_1 (by decide) (fun c1_0 => ?_) (fun c1_0 => ?_)
  · exact absurd c1_0 hok.1
  · skip
    refine lv_iload_n hx hb dX3_needDepth_4 rfl (lv_at hl 0 rfl) ?_
    refine lv_iconst (v := 4) hx hb dX3_needDepth_5 (by decide) ?_
    refine lv_icmp_le (tgt := 19) hx hb dX3_needDepth_6 (by decide) (fun c6_1 => ?_) (fun c6_1 => ?_)
    · skip
      exact W.vret hx hb hr (fun t ht hW => ⟨rfl, trivial, ht⟩) (fun q h => nomatch h) dX3_needDepth_19
    · exact absurd hok.2 c6_1
set_option maxHeartbeats 4000000 in
set_option maxRecDepth 100000 in
/-- needDepth: it throws -/
theorem x_X3_needDepth (l : Launch) (dC : Nat → ClassId) (dI : Nat → Nat → Nat) (cI cQ : ClassId) (hlt : l.stackTraces = false) (sz : Nat) (x : Int32) (hok : ¬ (¬ x < 0 ∧ x ≤ 4)) : vx_Met l yX3_needDepth wsX3_needDepth ({ frames := 6, cells := 1, slots := 6, locals := 82 }) (va_Pc [.int x] (PTs dC dI cI cQ sz)) (qvE sz) (xcE sz nIA) 1 6 (fun q => sz ≤ q) := by
  refine vx_ofW (cc := cX3_needDepth) (maxL := 1) (ret := none) (by decide) rfl ?_
  intro p e s m args below meth c s₁ B hml hnt hv
  obtain ⟨rfl, hsz, hX, hH⟩ := hv
  subst hsz
  have hx := B.exec
  have hb := B.bytes
  have hr := B.returns
  have hts := atoms_spec (ws := wsX3_needDepth) B.pre
  have hown : s.vm.findClass RX3 = some m.cls := findClass_of_methodNamed B.named
  have hlocks := B.notSynchronized
  have hK := hX.1
  have hl := lv_entry ([.int x]) (n := 1) (Nat.le_of_ble_eq_true rfl)
  rw [lg_entry_eq]
  generalize (lg_sl ([.int x]) ++ List.replicate (1 - (lg_sl ([.int x])).length) Slot.unset).toArray = ls at hl ⊢
  have hl : lv_has ls 1 [(0, .int x)] := hl
  refine lv_iload_n hx hb dX3_needDepth_0 rfl (lv_at hl 0 rfl) ?_
  refine lv_if_lt (tgt := 9) hx hb dX3_needDepth_1 (by decide) (fun c1_0 => ?_) (fun c1_0 => ?_)
  · skip
    obtain ⟨sa, hsa⟩ := hX.2.2 (205, "no such depth") (List.mem_of_getElem? (i := 10) rfl)
    exact vx_throwS (A := fun q => s.heap.size ≤ q) (cls := nIA) (text := "no such depth") (names := upE) hx hb hlt hown (by decide +kernel) (by decide +kernel) (hts _ (List.mem_of_getElem? (i := 1) rfl)) (hts _ (List.mem_of_getElem? (i := 2) rfl)) hsa (vx_hat (fun w h => hts w (List.mem_cons_of_mem _ (List.mem_append_right _ h))) xbIA (hX.xb _)) goIA hH.1 hH.2.1 va_S.rf (hl.1.trans hml.symm) dX3_needDepth_9 dX3_needDepth_12 dX3_needDepth_13 dX3_needDepth_15 dX3_needDepth_18 (fun x hx => (hnt x hx).elim) (show 2 + 3 < 6 by omega) (show _ + (13 * (2 + 1) + 43) ≤ 82 by first | decide | (simp only [List.map_cons, List.map_nil, List.sum_cons, List.sum_nil, Value.category]; omega)) (show 0 + 1 ≤ 1 by decide) (show 0 + 6 ≤ 6 by decide) hlocks (fun t _ hz hk => ⟨(), trivial, rfl, hz, fun q hq _ => hk q hq⟩) (fun z h => nomatch h) (show 0 + 1 ≤ 1 by decide) (show 0 + 6 ≤ 6 by decide)
  · skip
    refine lv_iload_n hx hb dX3_needDepth_4 rfl (lv_at hl 0 rfl) ?_
    refine lv_iconst (v := 4) hx hb dX3_needDepth_5 (by decide) ?_
    refine lv_icmp_le (tgt := 19) hx hb dX3_needDepth_6 (by decide) (fun c6_1 => ?_) (fun c6_1 => ?_)
    · exact absurd ⟨c1_0, c6_1⟩ hok
    · skip
      obtain ⟨sa, hsa⟩ := hX.2.2 (205, "no such depth") (List.mem_of_getElem? (i := 10) rfl)
      exact vx_throwS (A := fun q => s.heap.size ≤ q) (cls := nIA) (text := "no such depth") (names := upE) hx hb hlt hown (by decide +kernel) (by decide +kernel) (hts _ (List.mem_of_getElem? (i := 1) rfl)) (hts _ (List.mem_of_getElem? (i := 2) rfl)) hsa (vx_hat (fun w h => hts w (List.mem_cons_of_mem _ (List.mem_append_right _ h))) xbIA (hX.xb _)) goIA hH.1 hH.2.1 va_S.rf (hl.1.trans hml.symm) dX3_needDepth_9 dX3_needDepth_12 dX3_needDepth_13 dX3_needDepth_15 dX3_needDepth_18 (fun x hx => (hnt x hx).elim) (show 2 + 3 < 6 by omega) (show _ + (13 * (2 + 1) + 43) ≤ 82 by first | decide | (simp only [List.map_cons, List.map_nil, List.sum_cons, List.sum_nil, Value.category]; omega)) (show 0 + 1 ≤ 1 by decide) (show 0 + 6 ≤ 6 by decide) hlocks (fun t _ hz hk => ⟨(), trivial, rfl, hz, fun q hq _ => hk q hq⟩) (fun z h => nomatch h) (show 0 + 1 ≤ 1 by decide) (show 0 + 6 ≤ 6 by decide)
set_option maxHeartbeats 4000000 in
set_option maxRecDepth 100000 in
/-- needSolved: passed -/
theorem k_X3_needSolved (l : Launch) (x : Int32) (hok : ¬ x = -1) : Met l yX3_needSolved wsX3_needSolved ({ frames := 0, cells := 0, slots := 0, locals := 0 }) (va_Pc [.int x] (fun _ => True)) (vp_Si (fun r => r = x)) 0 0 (fun _ => False) := by
  refine Met.ofW (cc := cX3_needSolved) (maxL := 1) (ret := (some .int)) (by decide) rfl ?_
  intro p e s m args below meth c s₁ B hml hv
  obtain ⟨rfl, -⟩ := hv
  have hx := B.exec
  have hb := B.bytes
  have hr := B.returns
  have hts := atoms_spec (ws := wsX3_needSolved) B.pre
  have hown : s.vm.findClass RX3 = some m.cls := findClass_of_methodNamed B.named
  have hlocks := B.notSynchronized
  have hl := lv_entry ([.int x]) (n := 1) (Nat.le_of_ble_eq_true rfl)
  rw [lg_entry_eq]
  generalize (lg_sl ([.int x]) ++ List.replicate (1 - (lg_sl ([.int x])).length) Slot.unset).toArray = ls at hl ⊢
  have hl : lv_has ls 1 [(0, .int x)] := hl
  refine lv_iload_n hx hb dX3_needSolved_0 rfl (lv_at hl 0 rfl) ?_
  refine lv_iconst (v := (-1)) hx hb dX3_needSolved_1 (by decide) ?_
  refine lv_icmp_ne (tgt := 15) hx hb dX3_needSolved_2 (by decide) (fun c2_0 => ?_) (fun c2_0 => ?_)
  · skip
    refine lv_iload_n hx hb dX3_needSolved_15 rfl (lv_at hl 0 rfl) ?_
    exact W.iret hx hb hr (fun t ht hW => ⟨_, rfl, rfl, ht⟩) (fun q h => nomatch h) dX3_needSolved_16
  · exact absurd c2_0 hok
set_option maxHeartbeats 4000000 in
set_option maxRecDepth 100000 in
/-- needSolved: it throws -/
theorem x_X3_needSolved (l : Launch) (dC : Nat → ClassId) (dI : Nat → Nat → Nat) (cI cQ : ClassId) (hlt : l.stackTraces = false) (sz : Nat) (x : Int32) (hok : x = -1) : vx_Met l yX3_needSolved wsX3_needSolved ({ frames := 6, cells := 1, slots := 6, locals := 82 }) (va_Pc [.int x] (PTs dC dI cI cQ sz)) (qiE sz) (xcE sz nNS) 1 6 (fun q => sz ≤ q) := by
  refine vx_ofW (cc := cX3_needSolved) (maxL := 1) (ret := (some .int)) (by decide) rfl ?_
  intro p e s m args below meth c s₁ B hml hnt hv
  obtain ⟨rfl, hsz, hX, hH⟩ := hv
  subst hsz
  have hx := B.exec
  have hb := B.bytes
  have hr := B.returns
  have hts := atoms_spec (ws := wsX3_needSolved) B.pre
  have hown : s.vm.findClass RX3 = some m.cls := findClass_of_methodNamed B.named
  have hlocks := B.notSynchronized
  have hK := hX.1
  have hl := lv_entry ([.int x]) (n := 1) (Nat.le_of_ble_eq_true rfl)
  rw [lg_entry_eq]
  generalize (lg_sl ([.int x]) ++ List.replicate (1 - (lg_sl ([.int x])).length) Slot.unset).toArray = ls at hl ⊢
  have hl : lv_has ls 1 [(0, .int x)] := hl
  refine lv_iload_n hx hb dX3_needSolved_0 rfl (lv_at hl 0 rfl) ?_
  refine lv_iconst (v := (-1)) hx hb dX3_needSolved_1 (by decide) ?_
  refine lv_icmp_ne (tgt := 15) hx hb dX3_needSolved_2 (by decide) (fun c2_0 => ?_) (fun c2_0 => ?_)
  · exact absurd hok c2_0
  · skip
    obtain ⟨sa, hsa⟩ := hX.2.2 (207, "the belief is not solved") (List.mem_of_getElem? (i := 11) rfl)
    exact xn_throwS (A := fun q => s.heap.size ≤ q) (cls := nNS) (text := "the belief is not solved") (up := "java/lang/RuntimeException") (r := ["java/lang/Exception"]) hx hb hlt hown (by decide +kernel) (by decide +kernel) (hts _ (List.mem_of_getElem? (i := 1) rfl)) (hts _ (List.mem_of_getElem? (i := 2) rfl)) hsa (vx_hat (fun w h => hts w (List.mem_cons_of_mem _ (List.mem_append_right _ h))) xbNS (hX.xb _)) goNS hH.1 hH.2.1 va_S.rf (hl.1.trans hml.symm) dX3_needSolved_5 dX3_needSolved_8 dX3_needSolved_9 dX3_needSolved_11 dX3_needSolved_14 (fun x hx => (hnt x hx).elim) (show 2 + 3 < 6 by omega) (show _ + (13 * (2 + 1) + 43) ≤ 82 by first | decide | (simp only [List.map_cons, List.map_nil, List.sum_cons, List.sum_nil, Value.category]; omega)) (show 0 + 1 ≤ 1 by decide) (show 0 + 6 ≤ 6 by decide) hlocks (fun t _ hz hk => ⟨(), trivial, rfl, hz, fun q hq _ => hk q hq⟩) (fun z h => nomatch h) (show 0 + 1 ≤ 1 by decide) (show 0 + 6 ≤ 6 by decide)
set_option maxHeartbeats 4000000 in
set_option maxRecDepth 100000 in
/-- needThere: passed -/
theorem k_X3_needThere (l : Launch) (dC : Nat → ClassId) (dI : Nat → Nat → Nat) (A : Nat → Nat) (cI cQ : ClassId) (σ : HS) {a : Nat} (ha : a < 8) (hok : ¬ acS σ a 0 = 0) : Met l yX3_needThere wsX3_needThere ({ frames := 0, cells := 0, slots := 0, locals := 0 }) (va_Pc [.ref (A 0), .int (nI a)] (hfP dC dI A cI cQ σ)) (va_Sv (fun _ => True)) 0 0 (fun _ => False) := by
  refine Met.ofW (cc := cX3_needThere) (maxL := 2) (ret := none) (by decide) rfl ?_
  intro p e s m args below meth c s₁ B hml hv
  obtain ⟨rfl, hP, hX⟩ := hv
  have hx := B.exec
  have hb := B.bytes
  have hr := B.returns
  have hts := atoms_spec (ws := wsX3_needThere) B.pre
  have hown : s.vm.findClass RX3 = some m.cls := findClass_of_methodNamed B.named
  have hlocks := B.notSynchronized
  have hK := hX.1
  have hinX3 : ∀ w ∈ wsX30, w ∈ wsX3_needThere := fun _ h => List.mem_cons_of_mem _ (List.mem_append_left _ (List.mem_append_left _ (List.mem_append_right _ h)))
  have hinX0 : ∀ w ∈ wsX00, w ∈ wsX3_needThere := fun _ h => List.mem_cons_of_mem _ (List.mem_append_left _ (List.mem_append_right _ h))
  have hl := lv_entry ([.ref (A 0), .int (nI a)]) (n := 2) (Nat.le_of_ble_eq_true rfl)
  rw [lg_entry_eq]
  generalize (lg_sl ([.ref (A 0), .int (nI a)]) ++ List.replicate (2 - (lg_sl ([.ref (A 0), .int (nI a)])).length) Slot.unset).toArray = ls at hl ⊢
  have hl : lv_has ls 2 [(0, .ref (A 0)), (1, .int (nI a))] := hl
  refine lv_aload_n hx hb dX3_needThere_0 rfl (lv_at hl 0 rfl) ?_
  refine va_get (D := (dC, dI)) (ci := 3) (v := .ref (A 1)) (C := RX3) (T := TX3) (N := 9) hx hb hts hinX3 hown hK hP 0 rfl rfl 0 (by decide) (hts _ (List.mem_of_getElem? (i := 3) rfl)) (fun _ h9 => h9) rfl dX3_needThere_1 ?_
  refine lv_iload_n hx hb dX3_needThere_4 rfl (lv_at hl 1 rfl) ?_
  refine va_aldq hx hb hK hP 1 1 rfl rfl (vp_in_nI (show a < 8 by omega) (by decide)) dX3_needThere_5 ?_
  rw [nI_clamp (show a < 2 ^ 31 by have := (show a < 8 by omega); omega)]
  refine va_getN (D := (dC, dI)) (host := RX3) (ci := 0) (v := .int (acS σ a 0)) (C := RX0) (T := TX0) (N := 5) hx hb hts hinX0 hown hK hP (8 + a) (hf_act ha) rfl 0 (by decide) (va_Nw.use rfl (hX.2.1 _ (List.mem_of_getElem? (i := 4) rfl))) (fun _ h9 => h9) rfl dX3_needThere_6 ?_
  refine lv_if_ne (tgt := 22) hx hb dX3_needThere_9 (by decide) (fun c9_0 => ?_) (fun c9_0 => ?_)
  · skip
    exact W.vret hx hb hr (fun t ht hW => ⟨rfl, trivial, ht⟩) (fun q h => nomatch h) dX3_needThere_22
  · exact absurd c9_0 hok
set_option maxHeartbeats 4000000 in
set_option maxRecDepth 100000 in
/-- needThere: it throws -/
theorem x_X3_needThere (l : Launch) (dC : Nat → ClassId) (dI : Nat → Nat → Nat) (A : Nat → Nat) (cI cQ : ClassId) (σ : HS) (hlt : l.stackTraces = false) (sz : Nat) {a : Nat} (ha : a < 8) (hok : acS σ a 0 = 0) : vx_Met l yX3_needThere wsX3_needThere ({ frames := 6, cells := 1, slots := 6, locals := 82 }) (va_Pc [.ref (A 0), .int (nI a)] (PTw dC dI A cI cQ sz σ)) (qvE sz) (xcE sz nNS) 1 6 (fun q => sz ≤ q) := by
  refine vx_ofW (cc := cX3_needThere) (maxL := 2) (ret := none) (by decide) rfl ?_
  intro p e s m args below meth c s₁ B hml hnt hv
  obtain ⟨rfl, hsz, hP, hX, hH⟩ := hv
  subst hsz
  have hx := B.exec
  have hb := B.bytes
  have hr := B.returns
  have hts := atoms_spec (ws := wsX3_needThere) B.pre
  have hown : s.vm.findClass RX3 = some m.cls := findClass_of_methodNamed B.named
  have hlocks := B.notSynchronized
  have hK := hX.1
  have hinX3 : ∀ w ∈ wsX30, w ∈ wsX3_needThere := fun _ h => List.mem_cons_of_mem _ (List.mem_append_left _ (List.mem_append_left _ (List.mem_append_right _ h)))
  have hinX0 : ∀ w ∈ wsX00, w ∈ wsX3_needThere := fun _ h => List.mem_cons_of_mem _ (List.mem_append_left _ (List.mem_append_right _ h))
  have hl := lv_entry ([.ref (A 0), .int (nI a)]) (n := 2) (Nat.le_of_ble_eq_true rfl)
  rw [lg_entry_eq]
  generalize (lg_sl ([.ref (A 0), .int (nI a)]) ++ List.replicate (2 - (lg_sl ([.ref (A 0), .int (nI a)])).length) Slot.unset).toArray = ls at hl ⊢
  have hl : lv_has ls 2 [(0, .ref (A 0)), (1, .int (nI a))] := hl
  refine lv_aload_n hx hb dX3_needThere_0 rfl (lv_at hl 0 rfl) ?_
  refine va_get (D := (dC, dI)) (ci := 3) (v := .ref (A 1)) (C := RX3) (T := TX3) (N := 9) hx hb hts hinX3 hown hK hP 0 rfl rfl 0 (by decide) (hts _ (List.mem_of_getElem? (i := 3) rfl)) (fun _ h9 => h9) rfl dX3_needThere_1 ?_
  refine lv_iload_n hx hb dX3_needThere_4 rfl (lv_at hl 1 rfl) ?_
  refine va_aldq hx hb hK hP 1 1 rfl rfl (vp_in_nI (show a < 8 by omega) (by decide)) dX3_needThere_5 ?_
  rw [nI_clamp (show a < 2 ^ 31 by have := (show a < 8 by omega); omega)]
  refine va_getN (D := (dC, dI)) (host := RX3) (ci := 0) (v := .int (acS σ a 0)) (C := RX0) (T := TX0) (N := 5) hx hb hts hinX0 hown hK hP (8 + a) (hf_act ha) rfl 0 (by decide) (va_Nw.use rfl (hX.2.1 _ (List.mem_of_getElem? (i := 4) rfl))) (fun _ h9 => h9) rfl dX3_needThere_6 ?_
  refine lv_if_ne (tgt := 22) hx hb dX3_needThere_9 (by decide) (fun c9_0 => ?_) (fun c9_0 => ?_)
  · exact absurd hok c9_0
  · skip
    obtain ⟨sa, hsa⟩ := hX.2.2 (201, "the action is not there") (List.mem_of_getElem? (i := 3) rfl)
    exact xn_throwS (A := fun q => s.heap.size ≤ q) (cls := nNS) (text := "the action is not there") (up := "java/lang/RuntimeException") (r := ["java/lang/Exception"]) hx hb hlt hown (by decide +kernel) (by decide +kernel) (hts _ (List.mem_of_getElem? (i := 1) rfl)) (hts _ (List.mem_of_getElem? (i := 2) rfl)) hsa (vx_hat (fun w h => hts w (List.mem_cons_of_mem _ (List.mem_append_right _ h))) xbNS (hX.xb _)) goNS hH.1 hH.2.1 va_S.rf (hl.1.trans hml.symm) dX3_needThere_12 dX3_needThere_15 dX3_needThere_16 dX3_needThere_18 dX3_needThere_21 (fun x hx => (hnt x hx).elim) (show 2 + 3 < 6 by omega) (show _ + (13 * (2 + 1) + 43) ≤ 82 by first | decide | (simp only [List.map_cons, List.map_nil, List.sum_cons, List.sum_nil, Value.category]; omega)) (show 0 + 1 ≤ 1 by decide) (show 0 + 6 ≤ 6 by decide) hlocks (fun t _ hz hk => ⟨(), trivial, rfl, hz, fun q hq _ => hk q hq⟩) (fun z h => nomatch h) (show 0 + 1 ≤ 1 by decide) (show 0 + 6 ≤ 6 by decide)
set_option maxHeartbeats 4000000 in
set_option maxRecDepth 100000 in
/-- needNode: passed -/
theorem k_X3_needNode (l : Launch) (dC : Nat → ClassId) (dI : Nat → Nat → Nat) (A : Nat → Nat) (cI cQ : ClassId) (σ : HS) (x : Int32) (hok : ¬ x < 0 ∧ x < ctS σ) : Met l yX3_needNode wsX3_needNode ({ frames := 0, cells := 0, slots := 0, locals := 0 }) (va_Pc [.ref (A 0), .int x] (hfP dC dI A cI cQ σ)) (va_Sv (fun _ => True)) 0 0 (fun _ => False) := by
  refine Met.ofW (cc := cX3_needNode) (maxL := 2) (ret := none) (by decide) rfl ?_
  intro p e s m args below meth c s₁ B hml hv
  obtain ⟨rfl, hP, hX⟩ := hv
  have hx := B.exec
  have hb := B.bytes
  have hr := B.returns
  have hts := atoms_spec (ws := wsX3_needNode) B.pre
  have hown : s.vm.findClass RX3 = some m.cls := findClass_of_methodNamed B.named
  have hlocks := B.notSynchronized
  have hK := hX.1
  have hinX3 : ∀ w ∈ wsX30, w ∈ wsX3_needNode := fun _ h => List.mem_cons_of_mem _ (List.mem_append_left _ (List.mem_append_left _ (List.mem_append_right _ h)))
  have hinX2 : ∀ w ∈ wsX20, w ∈ wsX3_needNode := fun _ h => List.mem_cons_of_mem _ (List.mem_append_left _ (List.mem_append_right _ h))
  have hl := lv_entry ([.ref (A 0), .int x]) (n := 2) (Nat.le_of_ble_eq_true rfl)
  rw [lg_entry_eq]
  generalize (lg_sl ([.ref (A 0), .int x]) ++ List.replicate (2 - (lg_sl ([.ref (A 0), .int x])).length) Slot.unset).toArray = ls at hl ⊢
  have hl : lv_has ls 2 [(0, .ref (A 0)), (1, .int x)] := hl
  refine lv_iload_n hx hb dX3_needNode_0 rfl (lv_at hl 1 rfl) ?_
  refine lv_if_lt (tgt := 15) hx hb dX3_needNode_1 (by decide) (fun c1_0 => ?_) (fun c1_0 => ?_)
  · exact absurd c1_0 hok.1
  · skip
    refine lv_iload_n hx hb dX3_needNode_4 rfl (lv_at hl 1 rfl) ?_
    refine lv_aload_n hx hb dX3_needNode_5 rfl (lv_at hl 0 rfl) ?_
    refine va_get (D := (dC, dI)) (ci := 3) (v := .ref (A 2)) (C := RX3) (T := TX3) (N := 9) hx hb hts hinX3 hown hK hP 0 rfl rfl 1 (by decide) (hts _ (List.mem_of_getElem? (i := 3) rfl)) (fun _ h9 => h9) rfl dX3_needNode_6 ?_
    refine va_getN (D := (dC, dI)) (host := RX3) (ci := 2) (v := .int (ctS σ)) (C := RX2) (T := TX2) (N := 2) hx hb hts hinX2 hown hK hP 2 rfl rfl 1 (by decide) (va_Nw.use rfl (hX.2.1 _ (List.mem_of_getElem? (i := 1) rfl))) (fun _ h9 => h9) rfl dX3_needNode_9 ?_
    refine lv_icmp_lt (tgt := 25) hx hb dX3_needNode_12 (by decide) (fun c12_1 => ?_) (fun c12_1 => ?_)
    · skip
      exact W.vret hx hb hr (fun t ht hW => ⟨rfl, trivial, ht⟩) (fun q h => nomatch h) dX3_needNode_25
    · exact absurd hok.2 c12_1
set_option maxHeartbeats 4000000 in
set_option maxRecDepth 100000 in
/-- needNode: it throws -/
theorem x_X3_needNode (l : Launch) (dC : Nat → ClassId) (dI : Nat → Nat → Nat) (A : Nat → Nat) (cI cQ : ClassId) (σ : HS) (hlt : l.stackTraces = false) (sz : Nat) (x : Int32) (hok : ¬ (¬ x < 0 ∧ x < ctS σ)) : vx_Met l yX3_needNode wsX3_needNode ({ frames := 6, cells := 1, slots := 6, locals := 82 }) (va_Pc [.ref (A 0), .int x] (PTw dC dI A cI cQ sz σ)) (qvE sz) (xcE sz nIO) 1 6 (fun q => sz ≤ q) := by
  refine vx_ofW (cc := cX3_needNode) (maxL := 2) (ret := none) (by decide) rfl ?_
  intro p e s m args below meth c s₁ B hml hnt hv
  obtain ⟨rfl, hsz, hP, hX, hH⟩ := hv
  subst hsz
  have hx := B.exec
  have hb := B.bytes
  have hr := B.returns
  have hts := atoms_spec (ws := wsX3_needNode) B.pre
  have hown : s.vm.findClass RX3 = some m.cls := findClass_of_methodNamed B.named
  have hlocks := B.notSynchronized
  have hK := hX.1
  have hinX3 : ∀ w ∈ wsX30, w ∈ wsX3_needNode := fun _ h => List.mem_cons_of_mem _ (List.mem_append_left _ (List.mem_append_left _ (List.mem_append_right _ h)))
  have hinX2 : ∀ w ∈ wsX20, w ∈ wsX3_needNode := fun _ h => List.mem_cons_of_mem _ (List.mem_append_left _ (List.mem_append_right _ h))
  have hl := lv_entry ([.ref (A 0), .int x]) (n := 2) (Nat.le_of_ble_eq_true rfl)
  rw [lg_entry_eq]
  generalize (lg_sl ([.ref (A 0), .int x]) ++ List.replicate (2 - (lg_sl ([.ref (A 0), .int x])).length) Slot.unset).toArray = ls at hl ⊢
  have hl : lv_has ls 2 [(0, .ref (A 0)), (1, .int x)] := hl
  refine lv_iload_n hx hb dX3_needNode_0 rfl (lv_at hl 1 rfl) ?_
  refine lv_if_lt (tgt := 15) hx hb dX3_needNode_1 (by decide) (fun c1_0 => ?_) (fun c1_0 => ?_)
  · skip
    obtain ⟨sa, hsa⟩ := hX.2.2 (209, "no such node") (List.mem_of_getElem? (i := 13) rfl)
    exact vx_throwS (A := fun q => s.heap.size ≤ q) (cls := nIO) (text := "no such node") (names := upE) hx hb hlt hown (by decide +kernel) (by decide +kernel) (hts _ (List.mem_of_getElem? (i := 1) rfl)) (hts _ (List.mem_of_getElem? (i := 2) rfl)) hsa (vx_hat (fun w h => hts w (List.mem_cons_of_mem _ (List.mem_append_right _ h))) xbIO (hX.xb _)) goIO hH.1 hH.2.1 va_S.rf (hl.1.trans hml.symm) dX3_needNode_15 dX3_needNode_18 dX3_needNode_19 dX3_needNode_21 dX3_needNode_24 (fun x hx => (hnt x hx).elim) (show 2 + 3 < 6 by omega) (show _ + (13 * (2 + 1) + 43) ≤ 82 by first | decide | (simp only [List.map_cons, List.map_nil, List.sum_cons, List.sum_nil, Value.category]; omega)) (show 0 + 1 ≤ 1 by decide) (show 0 + 6 ≤ 6 by decide) hlocks (fun t _ hz hk => ⟨(), trivial, rfl, hz, fun q hq _ => hk q hq⟩) (fun z h => nomatch h) (show 0 + 1 ≤ 1 by decide) (show 0 + 6 ≤ 6 by decide)
  · skip
    refine lv_iload_n hx hb dX3_needNode_4 rfl (lv_at hl 1 rfl) ?_
    refine lv_aload_n hx hb dX3_needNode_5 rfl (lv_at hl 0 rfl) ?_
    refine va_get (D := (dC, dI)) (ci := 3) (v := .ref (A 2)) (C := RX3) (T := TX3) (N := 9) hx hb hts hinX3 hown hK hP 0 rfl rfl 1 (by decide) (hts _ (List.mem_of_getElem? (i := 3) rfl)) (fun _ h9 => h9) rfl dX3_needNode_6 ?_
    refine va_getN (D := (dC, dI)) (host := RX3) (ci := 2) (v := .int (ctS σ)) (C := RX2) (T := TX2) (N := 2) hx hb hts hinX2 hown hK hP 2 rfl rfl 1 (by decide) (va_Nw.use rfl (hX.2.1 _ (List.mem_of_getElem? (i := 1) rfl))) (fun _ h9 => h9) rfl dX3_needNode_9 ?_
    refine lv_icmp_lt (tgt := 25) hx hb dX3_needNode_12 (by decide) (fun c12_1 => ?_) (fun c12_1 => ?_)
    · exact absurd ⟨c1_0, c12_1⟩ hok
    · skip
      obtain ⟨sa, hsa⟩ := hX.2.2 (209, "no such node") (List.mem_of_getElem? (i := 13) rfl)
      exact vx_throwS (A := fun q => s.heap.size ≤ q) (cls := nIO) (text := "no such node") (names := upE) hx hb hlt hown (by decide +kernel) (by decide +kernel) (hts _ (List.mem_of_getElem? (i := 1) rfl)) (hts _ (List.mem_of_getElem? (i := 2) rfl)) hsa (vx_hat (fun w h => hts w (List.mem_cons_of_mem _ (List.mem_append_right _ h))) xbIO (hX.xb _)) goIO hH.1 hH.2.1 va_S.rf (hl.1.trans hml.symm) dX3_needNode_15 dX3_needNode_18 dX3_needNode_19 dX3_needNode_21 dX3_needNode_24 (fun x hx => (hnt x hx).elim) (show 2 + 3 < 6 by omega) (show _ + (13 * (2 + 1) + 43) ≤ 82 by first | decide | (simp only [List.map_cons, List.map_nil, List.sum_cons, List.sum_nil, Value.category]; omega)) (show 0 + 1 ≤ 1 by decide) (show 0 + 6 ≤ 6 by decide) hlocks (fun t _ hz hk => ⟨(), trivial, rfl, hz, fun q hq _ => hk q hq⟩) (fun z h => nomatch h) (show 0 + 1 ≤ 1 by decide) (show 0 + 6 ≤ 6 by decide)
set_option maxHeartbeats 4000000 in
set_option maxRecDepth 100000 in
/-- needPlan: passed -/
theorem k_X3_needPlan (l : Launch) (dC : Nat → ClassId) (dI : Nat → Nat → Nat) (A : Nat → Nat) (cI cQ : ClassId) (σ : HS)  (hok : ¬ ctS σ = 0) : Met l yX3_needPlan wsX3_needPlan ({ frames := 0, cells := 0, slots := 0, locals := 0 }) (va_Pc [.ref (A 0)] (hfP dC dI A cI cQ σ)) (va_Sv (fun _ => True)) 0 0 (fun _ => False) := by
  refine Met.ofW (cc := cX3_needPlan) (maxL := 1) (ret := none) (by decide) rfl ?_
  intro p e s m args below meth c s₁ B hml hv
  obtain ⟨rfl, hP, hX⟩ := hv
  have hx := B.exec
  have hb := B.bytes
  have hr := B.returns
  have hts := atoms_spec (ws := wsX3_needPlan) B.pre
  have hown : s.vm.findClass RX3 = some m.cls := findClass_of_methodNamed B.named
  have hlocks := B.notSynchronized
  have hK := hX.1
  have hinX3 : ∀ w ∈ wsX30, w ∈ wsX3_needPlan := fun _ h => List.mem_cons_of_mem _ (List.mem_append_left _ (List.mem_append_left _ (List.mem_append_right _ h)))
  have hinX2 : ∀ w ∈ wsX20, w ∈ wsX3_needPlan := fun _ h => List.mem_cons_of_mem _ (List.mem_append_left _ (List.mem_append_right _ h))
  have hl := lv_entry ([.ref (A 0)]) (n := 1) (Nat.le_of_ble_eq_true rfl)
  rw [lg_entry_eq]
  generalize (lg_sl ([.ref (A 0)]) ++ List.replicate (1 - (lg_sl ([.ref (A 0)])).length) Slot.unset).toArray = ls at hl ⊢
  have hl : lv_has ls 1 [(0, .ref (A 0))] := hl
  refine lv_aload_n hx hb dX3_needPlan_0 rfl (lv_at hl 0 rfl) ?_
  refine va_get (D := (dC, dI)) (ci := 3) (v := .ref (A 2)) (C := RX3) (T := TX3) (N := 9) hx hb hts hinX3 hown hK hP 0 rfl rfl 1 (by decide) (hts _ (List.mem_of_getElem? (i := 3) rfl)) (fun _ h9 => h9) rfl dX3_needPlan_1 ?_
  refine va_getN (D := (dC, dI)) (host := RX3) (ci := 2) (v := .int (ctS σ)) (C := RX2) (T := TX2) (N := 2) hx hb hts hinX2 hown hK hP 2 rfl rfl 1 (by decide) (va_Nw.use rfl (hX.2.1 _ (List.mem_of_getElem? (i := 1) rfl))) (fun _ h9 => h9) rfl dX3_needPlan_4 ?_
  refine lv_if_ne (tgt := 20) hx hb dX3_needPlan_7 (by decide) (fun c7_0 => ?_) (fun c7_0 => ?_)
  · skip
    exact W.vret hx hb hr (fun t ht hW => ⟨rfl, trivial, ht⟩) (fun q h => nomatch h) dX3_needPlan_20
  · exact absurd c7_0 hok
set_option maxHeartbeats 4000000 in
set_option maxRecDepth 100000 in
/-- needPlan: it throws -/
theorem x_X3_needPlan (l : Launch) (dC : Nat → ClassId) (dI : Nat → Nat → Nat) (A : Nat → Nat) (cI cQ : ClassId) (σ : HS) (hlt : l.stackTraces = false) (sz : Nat)  (hok : ctS σ = 0) : vx_Met l yX3_needPlan wsX3_needPlan ({ frames := 6, cells := 1, slots := 6, locals := 82 }) (va_Pc [.ref (A 0)] (PTw dC dI A cI cQ sz σ)) (qvE sz) (xcE sz nIS) 1 6 (fun q => sz ≤ q) := by
  refine vx_ofW (cc := cX3_needPlan) (maxL := 1) (ret := none) (by decide) rfl ?_
  intro p e s m args below meth c s₁ B hml hnt hv
  obtain ⟨rfl, hsz, hP, hX, hH⟩ := hv
  subst hsz
  have hx := B.exec
  have hb := B.bytes
  have hr := B.returns
  have hts := atoms_spec (ws := wsX3_needPlan) B.pre
  have hown : s.vm.findClass RX3 = some m.cls := findClass_of_methodNamed B.named
  have hlocks := B.notSynchronized
  have hK := hX.1
  have hinX3 : ∀ w ∈ wsX30, w ∈ wsX3_needPlan := fun _ h => List.mem_cons_of_mem _ (List.mem_append_left _ (List.mem_append_left _ (List.mem_append_right _ h)))
  have hinX2 : ∀ w ∈ wsX20, w ∈ wsX3_needPlan := fun _ h => List.mem_cons_of_mem _ (List.mem_append_left _ (List.mem_append_right _ h))
  have hl := lv_entry ([.ref (A 0)]) (n := 1) (Nat.le_of_ble_eq_true rfl)
  rw [lg_entry_eq]
  generalize (lg_sl ([.ref (A 0)]) ++ List.replicate (1 - (lg_sl ([.ref (A 0)])).length) Slot.unset).toArray = ls at hl ⊢
  have hl : lv_has ls 1 [(0, .ref (A 0))] := hl
  refine lv_aload_n hx hb dX3_needPlan_0 rfl (lv_at hl 0 rfl) ?_
  refine va_get (D := (dC, dI)) (ci := 3) (v := .ref (A 2)) (C := RX3) (T := TX3) (N := 9) hx hb hts hinX3 hown hK hP 0 rfl rfl 1 (by decide) (hts _ (List.mem_of_getElem? (i := 3) rfl)) (fun _ h9 => h9) rfl dX3_needPlan_1 ?_
  refine va_getN (D := (dC, dI)) (host := RX3) (ci := 2) (v := .int (ctS σ)) (C := RX2) (T := TX2) (N := 2) hx hb hts hinX2 hown hK hP 2 rfl rfl 1 (by decide) (va_Nw.use rfl (hX.2.1 _ (List.mem_of_getElem? (i := 1) rfl))) (fun _ h9 => h9) rfl dX3_needPlan_4 ?_
  refine lv_if_ne (tgt := 20) hx hb dX3_needPlan_7 (by decide) (fun c7_0 => ?_) (fun c7_0 => ?_)
  · exact absurd hok c7_0
  · skip
    obtain ⟨sa, hsa⟩ := hX.2.2 (211, "there is no plan") (List.mem_of_getElem? (i := 16) rfl)
    exact vx_throwS (A := fun q => s.heap.size ≤ q) (cls := nIS) (text := "there is no plan") (names := upE) hx hb hlt hown (by decide +kernel) (by decide +kernel) (hts _ (List.mem_of_getElem? (i := 1) rfl)) (hts _ (List.mem_of_getElem? (i := 2) rfl)) hsa (vx_hat (fun w h => hts w (List.mem_cons_of_mem _ (List.mem_append_right _ h))) xbIS (hX.xb _)) goIS hH.1 hH.2.1 va_S.rf (hl.1.trans hml.symm) dX3_needPlan_10 dX3_needPlan_13 dX3_needPlan_14 dX3_needPlan_16 dX3_needPlan_19 (fun x hx => (hnt x hx).elim) (show 2 + 3 < 6 by omega) (show _ + (13 * (2 + 1) + 43) ≤ 82 by first | decide | (simp only [List.map_cons, List.map_nil, List.sum_cons, List.sum_nil, Value.category]; omega)) (show 0 + 1 ≤ 1 by decide) (show 0 + 6 ≤ 6 by decide) hlocks (fun t _ hz hk => ⟨(), trivial, rfl, hz, fun q hq _ => hk q hq⟩) (fun z h => nomatch h) (show 0 + 1 ≤ 1 by decide) (show 0 + 6 ≤ 6 by decide)
