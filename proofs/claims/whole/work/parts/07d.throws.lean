set_option maxHeartbeats 4000000 in
set_option maxRecDepth 100000 in
/-- action: it throws (IO) -/
theorem x_X3_action_IO (l : Launch) (dC : Nat → ClassId) (dI : Nat → Nat → Nat) (A : Nat → Nat) (cI cQ : ClassId) (σ : HS) (hlt : l.stackTraces = false) (sz : Nat) (a mm vv sn : Int32) (h : a < 0 ∨ ¬ a < 8) : vx_Met l yX3_action wsX3_action RMx (va_Pc [.ref (A 0), .int a, .int mm, .int vv, .int sn] (PTw dC dI A cI cQ sz σ)) (qiE sz) (xcE sz nIO) 1 6 (fun q => sz ≤ q) := by
  refine vx_ofW (cc := cX3_action) (maxL := 6) (ret := (some .boolean)) (by decide) rfl ?_
  intro p e s m args below meth c s₁ B hml hnt hv
  obtain ⟨rfl, hsz, hP, hX, hH⟩ := hv
  subst hsz
  have hx := B.exec
  have hb := B.bytes
  have hr := B.returns
  have hts := atoms_spec (ws := wsX3_action) B.pre
  have hown : s.vm.findClass RX3 = some m.cls := findClass_of_methodNamed B.named
  have hlocks := B.notSynchronized
  have hK := hX.1
  have hl := lv_entry ([.ref (A 0), .int a, .int mm, .int vv, .int sn]) (n := 6) (Nat.le_of_ble_eq_true rfl)
  rw [lg_entry_eq]
  generalize (lg_sl ([.ref (A 0), .int a, .int mm, .int vv, .int sn]) ++ List.replicate (6 - (lg_sl ([.ref (A 0), .int a, .int mm, .int vv, .int sn])).length) Slot.unset).toArray = ls at hl ⊢
  have hl : lv_has ls 6 [(0, .ref (A 0)), (1, .int a), (2, .int mm), (3, .int vv), (4, .int sn)] := hl
  refine lv_iload_n hx hb dX3_action_0 rfl (lv_at hl 1 rfl) ?_
  refine vx_callv (A0 := fun q => s.heap.size ≤ q) (vx_runS (As := [.int a]) (rest := []) ⟨hx, hb, hml, hown, hts⟩ (x_X3_needNumber l dC dI cI cQ hlt s.heap.size a h) (va_cwS 1 hts gX3_action_X3_needNumber rfl rfl rfl (by decide +kernel) ⟨Nat.le_of_ble_eq_true rfl, Nat.le_of_ble_eq_true rfl⟩) ⟨bl_Ts, fun U hU hW => ⟨rfl, by rw [hU], hX.warm hW, by rw [hU]; exact HX.moved hW.alike hH⟩⟩ rfl rfl hl.1 rfl (lv_room (Nat.le_of_ble_eq_true rfl)) dX3_action_1 ⟨show 0 + 1 ≤ 1 by decide, show 0 + 6 ≤ 6 by decide⟩) va_S.rf (fun q _ h => h) (fun q h => h) (fun q _ h => h) (fun E ce q9 u t H1 locs1 ht hvm hp hB hz hk hS hc1 hc2 hc3 => ?_) (fun u t H1 locs1 ht hvm hp => hp.elim)
  exact vx_out (fun x hx => (hnt x hx).elim) hlocks hc1 hc2 hc3 (fun t2 ht2 hv2 => ⟨(), trivial, hB, by rw [ht2]; exact hz, fun q hq hnq => by rw [ht2]; exact hk q hq hnq⟩) hS.2.2 (Nat.le_refl _) (Nat.le_refl _)
set_option maxHeartbeats 4000000 in
set_option maxRecDepth 100000 in
/-- action: it throws (IA1) -/
theorem x_X3_action_IA1 (l : Launch) (dC : Nat → ClassId) (dI : Nat → Nat → Nat) (A : Nat → Nat) (cI cQ : ClassId) (σ : HS) (hlt : l.stackTraces = false) (sz : Nat) (a mm vv sn : Int32) (h1 : okNum a) (h : ¬ okBits mm vv) : vx_Met l yX3_action wsX3_action RMx (va_Pc [.ref (A 0), .int a, .int mm, .int vv, .int sn] (PTw dC dI A cI cQ sz σ)) (qiE sz) (xcE sz nIA) 1 6 (fun q => sz ≤ q) := by
  refine vx_ofW (cc := cX3_action) (maxL := 6) (ret := (some .boolean)) (by decide) rfl ?_
  intro p e s m args below meth c s₁ B hml hnt hv
  obtain ⟨rfl, hsz, hP, hX, hH⟩ := hv
  subst hsz
  have hx := B.exec
  have hb := B.bytes
  have hr := B.returns
  have hts := atoms_spec (ws := wsX3_action) B.pre
  have hown : s.vm.findClass RX3 = some m.cls := findClass_of_methodNamed B.named
  have hlocks := B.notSynchronized
  have hK := hX.1
  have hl := lv_entry ([.ref (A 0), .int a, .int mm, .int vv, .int sn]) (n := 6) (Nat.le_of_ble_eq_true rfl)
  rw [lg_entry_eq]
  generalize (lg_sl ([.ref (A 0), .int a, .int mm, .int vv, .int sn]) ++ List.replicate (6 - (lg_sl ([.ref (A 0), .int a, .int mm, .int vv, .int sn])).length) Slot.unset).toArray = ls at hl ⊢
  have hl : lv_has ls 6 [(0, .ref (A 0)), (1, .int a), (2, .int mm), (3, .int vv), (4, .int sn)] := hl
  refine lv_iload_n hx hb dX3_action_0 rfl (lv_at hl 1 rfl) ?_
  refine va_csv (W.runS (As := [.int a]) (rest := []) ⟨hx, hb, hml, hown, hts⟩ (k_X3_needNumber l a h1) (va_cwS 1 hts gX3_action_X3_needNumber rfl rfl rfl (by decide +kernel) ⟨Nat.le_of_ble_eq_true rfl, Nat.le_of_ble_eq_true rfl⟩) ⟨bl_T, fun U hU hW => ⟨rfl, trivial⟩⟩ rfl rfl hl.1 rfl (lv_room (Nat.le_of_ble_eq_true rfl)) dX3_action_1 ⟨Nat.zero_le _, Nat.zero_le _⟩) (fun _ => ?_)
  refine lv_iload_n hx hb dX3_action_4 rfl (lv_at hl 2 rfl) ?_
  refine lv_iload_n hx hb dX3_action_5 rfl (lv_at hl 3 rfl) ?_
  refine vx_callv (A0 := fun q => s.heap.size ≤ q) (vx_runS (As := [.int mm, .int vv]) (rest := []) ⟨hx, hb, hml, hown, hts⟩ (x_X3_needBits l dC dI cI cQ hlt s.heap.size mm vv h) (va_cwS 2 hts gX3_action_X3_needBits rfl rfl rfl (by decide +kernel) ⟨Nat.le_of_ble_eq_true rfl, Nat.le_of_ble_eq_true rfl⟩) ⟨bl_Ts, fun U hU hW => ⟨rfl, by rw [hU], hX.warm hW, by rw [hU]; exact HX.moved hW.alike hH⟩⟩ rfl rfl hl.1 rfl (lv_room (Nat.le_of_ble_eq_true rfl)) dX3_action_6 ⟨show 0 + 1 ≤ 1 by decide, show 0 + 6 ≤ 6 by decide⟩) va_S.rf (fun q _ h => h) (fun q h => h) (fun q _ h => h) (fun E ce q9 u t H1 locs1 ht hvm hp hB hz hk hS hc1 hc2 hc3 => ?_) (fun u t H1 locs1 ht hvm hp => hp.elim)
  exact vx_out (fun x hx => (hnt x hx).elim) hlocks hc1 hc2 hc3 (fun t2 ht2 hv2 => ⟨(), trivial, hB, by rw [ht2]; exact hz, fun q hq hnq => by rw [ht2]; exact hk q hq hnq⟩) hS.2.2 (Nat.le_refl _) (Nat.le_refl _)
set_option maxHeartbeats 4000000 in
set_option maxRecDepth 100000 in
/-- action: it throws (IA2) -/
theorem x_X3_action_IA2 (l : Launch) (dC : Nat → ClassId) (dI : Nat → Nat → Nat) (A : Nat → Nat) (cI cQ : ClassId) (σ : HS) (hlt : l.stackTraces = false) (sz : Nat) (a mm vv sn : Int32) (h1 : okNum a) (h2 : okBits mm vv) (h : sn < -1 ∨ ¬ sn < 4) : vx_Met l yX3_action wsX3_action RMx (va_Pc [.ref (A 0), .int a, .int mm, .int vv, .int sn] (PTw dC dI A cI cQ sz σ)) (qiE sz) (xcE sz nIA) 1 6 (fun q => sz ≤ q) := by
  refine vx_ofW (cc := cX3_action) (maxL := 6) (ret := (some .boolean)) (by decide) rfl ?_
  intro p e s m args below meth c s₁ B hml hnt hv
  obtain ⟨rfl, hsz, hP, hX, hH⟩ := hv
  subst hsz
  have hx := B.exec
  have hb := B.bytes
  have hr := B.returns
  have hts := atoms_spec (ws := wsX3_action) B.pre
  have hown : s.vm.findClass RX3 = some m.cls := findClass_of_methodNamed B.named
  have hlocks := B.notSynchronized
  have hK := hX.1
  have hl := lv_entry ([.ref (A 0), .int a, .int mm, .int vv, .int sn]) (n := 6) (Nat.le_of_ble_eq_true rfl)
  rw [lg_entry_eq]
  generalize (lg_sl ([.ref (A 0), .int a, .int mm, .int vv, .int sn]) ++ List.replicate (6 - (lg_sl ([.ref (A 0), .int a, .int mm, .int vv, .int sn])).length) Slot.unset).toArray = ls at hl ⊢
  have hl : lv_has ls 6 [(0, .ref (A 0)), (1, .int a), (2, .int mm), (3, .int vv), (4, .int sn)] := hl
  refine lv_iload_n hx hb dX3_action_0 rfl (lv_at hl 1 rfl) ?_
  refine va_csv (W.runS (As := [.int a]) (rest := []) ⟨hx, hb, hml, hown, hts⟩ (k_X3_needNumber l a h1) (va_cwS 1 hts gX3_action_X3_needNumber rfl rfl rfl (by decide +kernel) ⟨Nat.le_of_ble_eq_true rfl, Nat.le_of_ble_eq_true rfl⟩) ⟨bl_T, fun U hU hW => ⟨rfl, trivial⟩⟩ rfl rfl hl.1 rfl (lv_room (Nat.le_of_ble_eq_true rfl)) dX3_action_1 ⟨Nat.zero_le _, Nat.zero_le _⟩) (fun _ => ?_)
  refine lv_iload_n hx hb dX3_action_4 rfl (lv_at hl 2 rfl) ?_
  refine lv_iload_n hx hb dX3_action_5 rfl (lv_at hl 3 rfl) ?_
  refine va_csv (W.runS (As := [.int mm, .int vv]) (rest := []) ⟨hx, hb, hml, hown, hts⟩ (k_X3_needBits l mm vv h2) (va_cwS 2 hts gX3_action_X3_needBits rfl rfl rfl (by decide +kernel) ⟨Nat.le_of_ble_eq_true rfl, Nat.le_of_ble_eq_true rfl⟩) ⟨bl_T, fun U hU hW => ⟨rfl, trivial⟩⟩ rfl rfl hl.1 rfl (lv_room (Nat.le_of_ble_eq_true rfl)) dX3_action_6 ⟨Nat.zero_le _, Nat.zero_le _⟩) (fun _ => ?_)
  refine lv_iload hx hb dX3_action_9 (lv_at hl 4 rfl) ?_
  refine lv_iconst (v := (-1)) hx hb dX3_action_11 (by decide) ?_
  refine lv_icmp_lt (tgt := 21) hx hb dX3_action_12 (by decide) (fun c12_0 => ?_) (fun c12_0 => ?_)
  · skip
    obtain ⟨sa, hsa⟩ := hX.2.2 (51, "no such fact to sense") (List.mem_of_getElem? (i := 2) rfl)
    exact vx_throwS (A := fun q => s.heap.size ≤ q) (cls := nIA) (text := "no such fact to sense") (names := upE) hx hb hlt hown (by decide +kernel) (by decide +kernel) (hts _ (List.mem_of_getElem? (i := 1) rfl)) (hts _ (List.mem_of_getElem? (i := 2) rfl)) hsa (vx_hat (fun w h => hts w (List.mem_cons_of_mem _ (List.mem_append_left _ (List.mem_append_right _ h)))) xbIA (hX.xb _)) goIA hH.1 hH.2.1 va_S.rf (hl.1.trans hml.symm) dX3_action_21 dX3_action_24 dX3_action_25 dX3_action_27 dX3_action_30 (fun x hx => (hnt x hx).elim) (show 2 + 3 < 30 by omega) (show _ + (13 * (2 + 1) + 43) ≤ 700 by first | decide | (simp only [List.map_cons, List.map_nil, List.sum_cons, List.sum_nil, Value.category]; omega)) (show 0 + 1 ≤ 1 by decide) (show 0 + 6 ≤ 6 by decide) hlocks (fun t _ hz hk => ⟨(), trivial, rfl, hz, fun q hq _ => hk q hq⟩) (fun z h => nomatch h) (show 0 + 1 ≤ 1 by decide) (show 0 + 6 ≤ 6 by decide)
  · skip
    refine lv_iload hx hb dX3_action_15 (lv_at hl 4 rfl) ?_
    refine lv_iconst (v := 4) hx hb dX3_action_17 (by decide) ?_
    refine lv_icmp_lt (tgt := 31) hx hb dX3_action_18 (by decide) (fun c18_1 => ?_) (fun c18_1 => ?_)
    · exact absurd h (by rintro (z | z); exact c12_0 z; exact z c18_1)
    · skip
      obtain ⟨sa, hsa⟩ := hX.2.2 (51, "no such fact to sense") (List.mem_of_getElem? (i := 2) rfl)
      exact vx_throwS (A := fun q => s.heap.size ≤ q) (cls := nIA) (text := "no such fact to sense") (names := upE) hx hb hlt hown (by decide +kernel) (by decide +kernel) (hts _ (List.mem_of_getElem? (i := 1) rfl)) (hts _ (List.mem_of_getElem? (i := 2) rfl)) hsa (vx_hat (fun w h => hts w (List.mem_cons_of_mem _ (List.mem_append_left _ (List.mem_append_right _ h)))) xbIA (hX.xb _)) goIA hH.1 hH.2.1 va_S.rf (hl.1.trans hml.symm) dX3_action_21 dX3_action_24 dX3_action_25 dX3_action_27 dX3_action_30 (fun x hx => (hnt x hx).elim) (show 2 + 3 < 30 by omega) (show _ + (13 * (2 + 1) + 43) ≤ 700 by first | decide | (simp only [List.map_cons, List.map_nil, List.sum_cons, List.sum_nil, Value.category]; omega)) (show 0 + 1 ≤ 1 by decide) (show 0 + 6 ≤ 6 by decide) hlocks (fun t _ hz hk => ⟨(), trivial, rfl, hz, fun q hq _ => hk q hq⟩) (fun z h => nomatch h) (show 0 + 1 ≤ 1 by decide) (show 0 + 6 ≤ 6 by decide)
set_option maxHeartbeats 4000000 in
set_option maxRecDepth 100000 in
/-- effect: it throws (IO) -/
theorem x_X3_effect_IO (l : Launch) (dC : Nat → ClassId) (dI : Nat → Nat → Nat) (A : Nat → Nat) (cI cQ : ClassId) (σ : HS) (hlt : l.stackTraces = false) (sz : Nat) (a f : Int32) (mk1 : Bool) (mm vv : Int32) (h : a < 0 ∨ ¬ a < 8) : vx_Met l yX3_effect wsX3_effect RMx (va_Pc [.ref (A 0), .int a, .int f, .int (b2i mk1), .int mm, .int vv] (PTw dC dI A cI cQ sz σ)) (qiE sz) (xcE sz nIO) 1 6 (fun q => sz ≤ q) := by
  refine vx_ofW (cc := cX3_effect) (maxL := 6) (ret := (some .int)) (by decide) rfl ?_
  intro p e s m args below meth c s₁ B hml hnt hv
  obtain ⟨rfl, hsz, hP, hX, hH⟩ := hv
  subst hsz
  have hx := B.exec
  have hb := B.bytes
  have hr := B.returns
  have hts := atoms_spec (ws := wsX3_effect) B.pre
  have hown : s.vm.findClass RX3 = some m.cls := findClass_of_methodNamed B.named
  have hlocks := B.notSynchronized
  have hK := hX.1
  have hl := lv_entry ([.ref (A 0), .int a, .int f, .int (b2i mk1), .int mm, .int vv]) (n := 6) (Nat.le_of_ble_eq_true rfl)
  rw [lg_entry_eq]
  generalize (lg_sl ([.ref (A 0), .int a, .int f, .int (b2i mk1), .int mm, .int vv]) ++ List.replicate (6 - (lg_sl ([.ref (A 0), .int a, .int f, .int (b2i mk1), .int mm, .int vv])).length) Slot.unset).toArray = ls at hl ⊢
  have hl : lv_has ls 6 [(0, .ref (A 0)), (1, .int a), (2, .int f), (3, .int (b2i mk1)), (4, .int mm), (5, .int vv)] := hl
  refine lv_iload_n hx hb dX3_effect_0 rfl (lv_at hl 1 rfl) ?_
  refine vx_callv (A0 := fun q => s.heap.size ≤ q) (vx_runS (As := [.int a]) (rest := []) ⟨hx, hb, hml, hown, hts⟩ (x_X3_needNumber l dC dI cI cQ hlt s.heap.size a h) (va_cwS 1 hts gX3_effect_X3_needNumber rfl rfl rfl (by decide +kernel) ⟨Nat.le_of_ble_eq_true rfl, Nat.le_of_ble_eq_true rfl⟩) ⟨bl_Ts, fun U hU hW => ⟨rfl, by rw [hU], hX.warm hW, by rw [hU]; exact HX.moved hW.alike hH⟩⟩ rfl rfl hl.1 rfl (lv_room (Nat.le_of_ble_eq_true rfl)) dX3_effect_1 ⟨show 0 + 1 ≤ 1 by decide, show 0 + 6 ≤ 6 by decide⟩) va_S.rf (fun q _ h => h) (fun q h => h) (fun q _ h => h) (fun E ce q9 u t H1 locs1 ht hvm hp hB hz hk hS hc1 hc2 hc3 => ?_) (fun u t H1 locs1 ht hvm hp => hp.elim)
  exact vx_out (fun x hx => (hnt x hx).elim) hlocks hc1 hc2 hc3 (fun t2 ht2 hv2 => ⟨(), trivial, hB, by rw [ht2]; exact hz, fun q hq hnq => by rw [ht2]; exact hk q hq hnq⟩) hS.2.2 (Nat.le_refl _) (Nat.le_refl _)
set_option maxHeartbeats 4000000 in
set_option maxRecDepth 100000 in
/-- effect: it throws (NS) -/
theorem x_X3_effect_NS (l : Launch) (dC : Nat → ClassId) (dI : Nat → Nat → Nat) (A : Nat → Nat) (cI cQ : ClassId) (σ : HS) (hlt : l.stackTraces = false) (sz : Nat) {a : Nat} (ha : a < 8) (f : Int32) (mk1 : Bool) (mm vv : Int32) (h : acS σ a 0 = 0) : vx_Met l yX3_effect wsX3_effect RMx (va_Pc [.ref (A 0), .int (nI a), .int f, .int (b2i mk1), .int mm, .int vv] (PTw dC dI A cI cQ sz σ)) (qiE sz) (xcE sz nNS) 1 6 (fun q => sz ≤ q) := by
  refine vx_ofW (cc := cX3_effect) (maxL := 6) (ret := (some .int)) (by decide) rfl ?_
  intro p e s m args below meth c s₁ B hml hnt hv
  obtain ⟨rfl, hsz, hP, hX, hH⟩ := hv
  subst hsz
  have hx := B.exec
  have hb := B.bytes
  have hr := B.returns
  have hts := atoms_spec (ws := wsX3_effect) B.pre
  have hown : s.vm.findClass RX3 = some m.cls := findClass_of_methodNamed B.named
  have hlocks := B.notSynchronized
  have hK := hX.1
  have hinX3 : ∀ w ∈ wsX30, w ∈ wsX3_effect := fun _ h => List.mem_cons_of_mem _ (List.mem_append_left _ (List.mem_append_left _ (List.mem_append_left _ (List.mem_append_left _ (List.mem_append_left _ (List.mem_append_right _ h))))))
  have hl := lv_entry ([.ref (A 0), .int (nI a), .int f, .int (b2i mk1), .int mm, .int vv]) (n := 6) (Nat.le_of_ble_eq_true rfl)
  rw [lg_entry_eq]
  generalize (lg_sl ([.ref (A 0), .int (nI a), .int f, .int (b2i mk1), .int mm, .int vv]) ++ List.replicate (6 - (lg_sl ([.ref (A 0), .int (nI a), .int f, .int (b2i mk1), .int mm, .int vv])).length) Slot.unset).toArray = ls at hl ⊢
  have hl : lv_has ls 6 [(0, .ref (A 0)), (1, .int (nI a)), (2, .int f), (3, .int (b2i mk1)), (4, .int mm), (5, .int vv)] := hl
  refine lv_iload_n hx hb dX3_effect_0 rfl (lv_at hl 1 rfl) ?_
  refine va_csv (W.runS (As := [.int (nI a)]) (rest := []) ⟨hx, hb, hml, hown, hts⟩ (k_X3_needNumber l (nI a) ⟨nI_pos (by omega), nI_lt (b := 8) ha (by decide)⟩) (va_cwS 1 hts gX3_effect_X3_needNumber rfl rfl rfl (by decide +kernel) ⟨Nat.le_of_ble_eq_true rfl, Nat.le_of_ble_eq_true rfl⟩) ⟨bl_T, fun U hU hW => ⟨rfl, trivial⟩⟩ rfl rfl hl.1 rfl (lv_room (Nat.le_of_ble_eq_true rfl)) dX3_effect_1 ⟨Nat.zero_le _, Nat.zero_le _⟩) (fun _ => ?_)
  refine lv_aload_n hx hb dX3_effect_4 rfl (lv_at hl 0 rfl) ?_
  refine lv_iload_n hx hb dX3_effect_5 rfl (lv_at hl 1 rfl) ?_
  refine vx_callv (A0 := fun q => s.heap.size ≤ q) (vx_runV (As := [.int (nI a)]) (rest := []) ⟨hx, hb, hml, hown, hts⟩ (x_X3_needThere l dC dI A cI cQ σ hlt s.heap.size (a := a) ha h) (cwV 1 hts gX3_effect_X3_needThere rfl rfl rfl (by decide +kernel) ⟨Nat.le_of_ble_eq_true rfl, Nat.le_of_ble_eq_true rfl⟩) ⟨bl_Tw, va_recv hK hP (ci := 3) (q0 := 0) rfl rfl, fun U hU hW => ⟨rfl, by rw [hU], by rw [hU]; exact hP, hX.warm hW, by rw [hU]; exact HX.moved hW.alike hH⟩⟩ rfl rfl hl.1 rfl (lv_room (Nat.le_of_ble_eq_true rfl)) dX3_effect_6 ⟨show 0 + 1 ≤ 1 by decide, show 0 + 6 ≤ 6 by decide⟩) va_S.rf (fun q _ h => h) (fun q h => h) (fun q _ h => h) (fun E ce q9 u t H1 locs1 ht hvm hp hB hz hk hS hc1 hc2 hc3 => ?_) (fun u t H1 locs1 ht hvm hp => hp.elim)
  exact vx_out (fun x hx => (hnt x hx).elim) hlocks hc1 hc2 hc3 (fun t2 ht2 hv2 => ⟨(), trivial, hB, by rw [ht2]; exact hz, fun q hq hnq => by rw [ht2]; exact hk q hq hnq⟩) hS.2.2 (Nat.le_refl _) (Nat.le_refl _)
set_option maxHeartbeats 4000000 in
set_option maxRecDepth 100000 in
/-- effect: it throws (IA1) -/
theorem x_X3_effect_IA1 (l : Launch) (dC : Nat → ClassId) (dI : Nat → Nat → Nat) (A : Nat → Nat) (cI cQ : ClassId) (σ : HS) (hlt : l.stackTraces = false) (sz : Nat) {a : Nat} (ha : a < 8) (f : Int32) (mk1 : Bool) (mm vv : Int32) (h1 : ¬ acS σ a 0 = 0) (h : ¬ okBits mm vv) : vx_Met l yX3_effect wsX3_effect RMx (va_Pc [.ref (A 0), .int (nI a), .int f, .int (b2i mk1), .int mm, .int vv] (PTw dC dI A cI cQ sz σ)) (qiE sz) (xcE sz nIA) 1 6 (fun q => sz ≤ q) := by
  refine vx_ofW (cc := cX3_effect) (maxL := 6) (ret := (some .int)) (by decide) rfl ?_
  intro p e s m args below meth c s₁ B hml hnt hv
  obtain ⟨rfl, hsz, hP, hX, hH⟩ := hv
  subst hsz
  have hx := B.exec
  have hb := B.bytes
  have hr := B.returns
  have hts := atoms_spec (ws := wsX3_effect) B.pre
  have hown : s.vm.findClass RX3 = some m.cls := findClass_of_methodNamed B.named
  have hlocks := B.notSynchronized
  have hK := hX.1
  have hinX3 : ∀ w ∈ wsX30, w ∈ wsX3_effect := fun _ h => List.mem_cons_of_mem _ (List.mem_append_left _ (List.mem_append_left _ (List.mem_append_left _ (List.mem_append_left _ (List.mem_append_left _ (List.mem_append_right _ h))))))
  have hl := lv_entry ([.ref (A 0), .int (nI a), .int f, .int (b2i mk1), .int mm, .int vv]) (n := 6) (Nat.le_of_ble_eq_true rfl)
  rw [lg_entry_eq]
  generalize (lg_sl ([.ref (A 0), .int (nI a), .int f, .int (b2i mk1), .int mm, .int vv]) ++ List.replicate (6 - (lg_sl ([.ref (A 0), .int (nI a), .int f, .int (b2i mk1), .int mm, .int vv])).length) Slot.unset).toArray = ls at hl ⊢
  have hl : lv_has ls 6 [(0, .ref (A 0)), (1, .int (nI a)), (2, .int f), (3, .int (b2i mk1)), (4, .int mm), (5, .int vv)] := hl
  refine lv_iload_n hx hb dX3_effect_0 rfl (lv_at hl 1 rfl) ?_
  refine va_csv (W.runS (As := [.int (nI a)]) (rest := []) ⟨hx, hb, hml, hown, hts⟩ (k_X3_needNumber l (nI a) ⟨nI_pos (by omega), nI_lt (b := 8) ha (by decide)⟩) (va_cwS 1 hts gX3_effect_X3_needNumber rfl rfl rfl (by decide +kernel) ⟨Nat.le_of_ble_eq_true rfl, Nat.le_of_ble_eq_true rfl⟩) ⟨bl_T, fun U hU hW => ⟨rfl, trivial⟩⟩ rfl rfl hl.1 rfl (lv_room (Nat.le_of_ble_eq_true rfl)) dX3_effect_1 ⟨Nat.zero_le _, Nat.zero_le _⟩) (fun _ => ?_)
  refine lv_aload_n hx hb dX3_effect_4 rfl (lv_at hl 0 rfl) ?_
  refine lv_iload_n hx hb dX3_effect_5 rfl (lv_at hl 1 rfl) ?_
  refine va_csv (W.runV (As := [.int (nI a)]) (rest := []) ⟨hx, hb, hml, hown, hts⟩ (k_X3_needThere l dC dI A cI cQ σ (a := a) ha h1) (cwV 1 hts gX3_effect_X3_needThere rfl rfl rfl (by decide +kernel) ⟨Nat.le_of_ble_eq_true rfl, Nat.le_of_ble_eq_true rfl⟩) ⟨bl_P, va_recv hK hP (ci := 3) (q0 := 0) rfl rfl, fun U hU hW => ⟨rfl, by rw [hU]; exact hP, hX.warm hW⟩⟩ rfl rfl hl.1 rfl (lv_room (Nat.le_of_ble_eq_true rfl)) dX3_effect_6 ⟨Nat.zero_le _, Nat.zero_le _⟩) (fun _ => ?_)
  refine lv_iload hx hb dX3_effect_9 (lv_at hl 4 rfl) ?_
  refine lv_iload hx hb dX3_effect_11 (lv_at hl 5 rfl) ?_
  refine vx_callv (A0 := fun q => s.heap.size ≤ q) (vx_runS (As := [.int mm, .int vv]) (rest := []) ⟨hx, hb, hml, hown, hts⟩ (x_X3_needBits l dC dI cI cQ hlt s.heap.size mm vv h) (va_cwS 2 hts gX3_effect_X3_needBits rfl rfl rfl (by decide +kernel) ⟨Nat.le_of_ble_eq_true rfl, Nat.le_of_ble_eq_true rfl⟩) ⟨bl_Ts, fun U hU hW => ⟨rfl, by rw [hU], hX.warm hW, by rw [hU]; exact HX.moved hW.alike hH⟩⟩ rfl rfl hl.1 rfl (lv_room (Nat.le_of_ble_eq_true rfl)) dX3_effect_13 ⟨show 0 + 1 ≤ 1 by decide, show 0 + 6 ≤ 6 by decide⟩) va_S.rf (fun q _ h => h) (fun q h => h) (fun q _ h => h) (fun E ce q9 u t H1 locs1 ht hvm hp hB hz hk hS hc1 hc2 hc3 => ?_) (fun u t H1 locs1 ht hvm hp => hp.elim)
  exact vx_out (fun x hx => (hnt x hx).elim) hlocks hc1 hc2 hc3 (fun t2 ht2 hv2 => ⟨(), trivial, hB, by rw [ht2]; exact hz, fun q hq hnq => by rw [ht2]; exact hk q hq hnq⟩) hS.2.2 (Nat.le_refl _) (Nat.le_refl _)
set_option maxHeartbeats 4000000 in
set_option maxRecDepth 100000 in
/-- effect: it throws (IA2) -/
theorem x_X3_effect_IA2 (l : Launch) (dC : Nat → ClassId) (dI : Nat → Nat → Nat) (A : Nat → Nat) (cI cQ : ClassId) (σ : HS) (hlt : l.stackTraces = false) (sz : Nat) {a : Nat} (ha : a < 8) (f : Int32) (mk1 : Bool) (mm vv : Int32) (h1 : ¬ acS σ a 0 = 0) (h2 : okBits mm vv) (h : f < 0 ∨ ¬ f < 4) : vx_Met l yX3_effect wsX3_effect RMx (va_Pc [.ref (A 0), .int (nI a), .int f, .int (b2i mk1), .int mm, .int vv] (PTw dC dI A cI cQ sz σ)) (qiE sz) (xcE sz nIA) 1 6 (fun q => sz ≤ q) := by
  refine vx_ofW (cc := cX3_effect) (maxL := 6) (ret := (some .int)) (by decide) rfl ?_
  intro p e s m args below meth c s₁ B hml hnt hv
  obtain ⟨rfl, hsz, hP, hX, hH⟩ := hv
  subst hsz
  have hx := B.exec
  have hb := B.bytes
  have hr := B.returns
  have hts := atoms_spec (ws := wsX3_effect) B.pre
  have hown : s.vm.findClass RX3 = some m.cls := findClass_of_methodNamed B.named
  have hlocks := B.notSynchronized
  have hK := hX.1
  have hinX3 : ∀ w ∈ wsX30, w ∈ wsX3_effect := fun _ h => List.mem_cons_of_mem _ (List.mem_append_left _ (List.mem_append_left _ (List.mem_append_left _ (List.mem_append_left _ (List.mem_append_left _ (List.mem_append_right _ h))))))
  have hl := lv_entry ([.ref (A 0), .int (nI a), .int f, .int (b2i mk1), .int mm, .int vv]) (n := 6) (Nat.le_of_ble_eq_true rfl)
  rw [lg_entry_eq]
  generalize (lg_sl ([.ref (A 0), .int (nI a), .int f, .int (b2i mk1), .int mm, .int vv]) ++ List.replicate (6 - (lg_sl ([.ref (A 0), .int (nI a), .int f, .int (b2i mk1), .int mm, .int vv])).length) Slot.unset).toArray = ls at hl ⊢
  have hl : lv_has ls 6 [(0, .ref (A 0)), (1, .int (nI a)), (2, .int f), (3, .int (b2i mk1)), (4, .int mm), (5, .int vv)] := hl
  refine lv_iload_n hx hb dX3_effect_0 rfl (lv_at hl 1 rfl) ?_
  refine va_csv (W.runS (As := [.int (nI a)]) (rest := []) ⟨hx, hb, hml, hown, hts⟩ (k_X3_needNumber l (nI a) ⟨nI_pos (by omega), nI_lt (b := 8) ha (by decide)⟩) (va_cwS 1 hts gX3_effect_X3_needNumber rfl rfl rfl (by decide +kernel) ⟨Nat.le_of_ble_eq_true rfl, Nat.le_of_ble_eq_true rfl⟩) ⟨bl_T, fun U hU hW => ⟨rfl, trivial⟩⟩ rfl rfl hl.1 rfl (lv_room (Nat.le_of_ble_eq_true rfl)) dX3_effect_1 ⟨Nat.zero_le _, Nat.zero_le _⟩) (fun _ => ?_)
  refine lv_aload_n hx hb dX3_effect_4 rfl (lv_at hl 0 rfl) ?_
  refine lv_iload_n hx hb dX3_effect_5 rfl (lv_at hl 1 rfl) ?_
  refine va_csv (W.runV (As := [.int (nI a)]) (rest := []) ⟨hx, hb, hml, hown, hts⟩ (k_X3_needThere l dC dI A cI cQ σ (a := a) ha h1) (cwV 1 hts gX3_effect_X3_needThere rfl rfl rfl (by decide +kernel) ⟨Nat.le_of_ble_eq_true rfl, Nat.le_of_ble_eq_true rfl⟩) ⟨bl_P, va_recv hK hP (ci := 3) (q0 := 0) rfl rfl, fun U hU hW => ⟨rfl, by rw [hU]; exact hP, hX.warm hW⟩⟩ rfl rfl hl.1 rfl (lv_room (Nat.le_of_ble_eq_true rfl)) dX3_effect_6 ⟨Nat.zero_le _, Nat.zero_le _⟩) (fun _ => ?_)
  refine lv_iload hx hb dX3_effect_9 (lv_at hl 4 rfl) ?_
  refine lv_iload hx hb dX3_effect_11 (lv_at hl 5 rfl) ?_
  refine va_csv (W.runS (As := [.int mm, .int vv]) (rest := []) ⟨hx, hb, hml, hown, hts⟩ (k_X3_needBits l mm vv h2) (va_cwS 2 hts gX3_effect_X3_needBits rfl rfl rfl (by decide +kernel) ⟨Nat.le_of_ble_eq_true rfl, Nat.le_of_ble_eq_true rfl⟩) ⟨bl_T, fun U hU hW => ⟨rfl, trivial⟩⟩ rfl rfl hl.1 rfl (lv_room (Nat.le_of_ble_eq_true rfl)) dX3_effect_13 ⟨Nat.zero_le _, Nat.zero_le _⟩) (fun _ => ?_)
  refine lv_iload_n hx hb dX3_effect_16 rfl (lv_at hl 2 rfl) ?_
  refine lv_if_lt (tgt := 25) hx hb dX3_effect_17 (by decide) (fun c17_0 => ?_) (fun c17_0 => ?_)
  · skip
    obtain ⟨sa, hsa⟩ := hX.2.2 (69, "no such fact") (List.mem_of_getElem? (i := 4) rfl)
    exact vx_throwS (A := fun q => s.heap.size ≤ q) (cls := nIA) (text := "no such fact") (names := upE) hx hb hlt hown (by decide +kernel) (by decide +kernel) (hts _ (List.mem_of_getElem? (i := 1) rfl)) (hts _ (List.mem_of_getElem? (i := 2) rfl)) hsa (vx_hat (fun w h => hts w (List.mem_cons_of_mem _ (List.mem_append_left _ (List.mem_append_left _ (List.mem_append_left _ (List.mem_append_right _ h)))))) xbIA (hX.xb _)) goIA hH.1 hH.2.1 va_S.rf (hl.1.trans hml.symm) dX3_effect_25 dX3_effect_28 dX3_effect_29 dX3_effect_31 dX3_effect_34 (fun x hx => (hnt x hx).elim) (show 2 + 3 < 30 by omega) (show _ + (13 * (2 + 1) + 43) ≤ 700 by first | decide | (simp only [List.map_cons, List.map_nil, List.sum_cons, List.sum_nil, Value.category]; omega)) (show 0 + 1 ≤ 1 by decide) (show 0 + 6 ≤ 6 by decide) hlocks (fun t _ hz hk => ⟨(), trivial, rfl, hz, fun q hq _ => hk q hq⟩) (fun z h => nomatch h) (show 0 + 1 ≤ 1 by decide) (show 0 + 6 ≤ 6 by decide)
  · skip
    refine lv_iload_n hx hb dX3_effect_20 rfl (lv_at hl 2 rfl) ?_
    refine lv_iconst (v := 4) hx hb dX3_effect_21 (by decide) ?_
    refine lv_icmp_lt (tgt := 35) hx hb dX3_effect_22 (by decide) (fun c22_1 => ?_) (fun c22_1 => ?_)
    · exact absurd h (by rintro (z | z); exact c17_0 z; exact z c22_1)
    · skip
      obtain ⟨sa, hsa⟩ := hX.2.2 (69, "no such fact") (List.mem_of_getElem? (i := 4) rfl)
      exact vx_throwS (A := fun q => s.heap.size ≤ q) (cls := nIA) (text := "no such fact") (names := upE) hx hb hlt hown (by decide +kernel) (by decide +kernel) (hts _ (List.mem_of_getElem? (i := 1) rfl)) (hts _ (List.mem_of_getElem? (i := 2) rfl)) hsa (vx_hat (fun w h => hts w (List.mem_cons_of_mem _ (List.mem_append_left _ (List.mem_append_left _ (List.mem_append_left _ (List.mem_append_right _ h)))))) xbIA (hX.xb _)) goIA hH.1 hH.2.1 va_S.rf (hl.1.trans hml.symm) dX3_effect_25 dX3_effect_28 dX3_effect_29 dX3_effect_31 dX3_effect_34 (fun x hx => (hnt x hx).elim) (show 2 + 3 < 30 by omega) (show _ + (13 * (2 + 1) + 43) ≤ 700 by first | decide | (simp only [List.map_cons, List.map_nil, List.sum_cons, List.sum_nil, Value.category]; omega)) (show 0 + 1 ≤ 1 by decide) (show 0 + 6 ≤ 6 by decide) hlocks (fun t _ hz hk => ⟨(), trivial, rfl, hz, fun q hq _ => hk q hq⟩) (fun z h => nomatch h) (show 0 + 1 ≤ 1 by decide) (show 0 + 6 ≤ 6 by decide)
set_option maxHeartbeats 4000000 in
set_option maxRecDepth 100000 in
/-- effect: it throws (IS) -/
theorem x_X3_effect_IS (l : Launch) (dC : Nat → ClassId) (dI : Nat → Nat → Nat) (A : Nat → Nat) (cI cQ : ClassId) (σ : HS) (hlt : l.stackTraces = false) (sz : Nat) {a : Nat} (ha : a < 8) (f : Int32) (mk1 : Bool) (mm vv : Int32) (h1 : ¬ acS σ a 0 = 0) (h2 : okBits mm vv) (h3 : ¬ f < 0 ∧ f < 4) (h : ¬ acS σ a 3 < 4) : vx_Met l yX3_effect wsX3_effect RMx (va_Pc [.ref (A 0), .int (nI a), .int f, .int (b2i mk1), .int mm, .int vv] (PTw dC dI A cI cQ sz σ)) (qiE sz) (xcE sz nIS) 1 6 (fun q => sz ≤ q) := by
  refine vx_ofW (cc := cX3_effect) (maxL := 6) (ret := (some .int)) (by decide) rfl ?_
  intro p e s m args below meth c s₁ B hml hnt hv
  obtain ⟨rfl, hsz, hP, hX, hH⟩ := hv
  subst hsz
  have hx := B.exec
  have hb := B.bytes
  have hr := B.returns
  have hts := atoms_spec (ws := wsX3_effect) B.pre
  have hown : s.vm.findClass RX3 = some m.cls := findClass_of_methodNamed B.named
  have hlocks := B.notSynchronized
  have hK := hX.1
  have hinX3 : ∀ w ∈ wsX30, w ∈ wsX3_effect := fun _ h => List.mem_cons_of_mem _ (List.mem_append_left _ (List.mem_append_left _ (List.mem_append_left _ (List.mem_append_left _ (List.mem_append_left _ (List.mem_append_right _ h))))))
  have hinX0 : ∀ w ∈ wsX00, w ∈ wsX3_effect := fun _ h => List.mem_cons_of_mem _ (List.mem_append_left _ (List.mem_append_left _ (List.mem_append_left _ (List.mem_append_left _ (List.mem_append_right _ h)))))
  have hl := lv_entry ([.ref (A 0), .int (nI a), .int f, .int (b2i mk1), .int mm, .int vv]) (n := 6) (Nat.le_of_ble_eq_true rfl)
  rw [lg_entry_eq]
  generalize (lg_sl ([.ref (A 0), .int (nI a), .int f, .int (b2i mk1), .int mm, .int vv]) ++ List.replicate (6 - (lg_sl ([.ref (A 0), .int (nI a), .int f, .int (b2i mk1), .int mm, .int vv])).length) Slot.unset).toArray = ls at hl ⊢
  have hl : lv_has ls 6 [(0, .ref (A 0)), (1, .int (nI a)), (2, .int f), (3, .int (b2i mk1)), (4, .int mm), (5, .int vv)] := hl
  refine lv_iload_n hx hb dX3_effect_0 rfl (lv_at hl 1 rfl) ?_
  refine va_csv (W.runS (As := [.int (nI a)]) (rest := []) ⟨hx, hb, hml, hown, hts⟩ (k_X3_needNumber l (nI a) ⟨nI_pos (by omega), nI_lt (b := 8) ha (by decide)⟩) (va_cwS 1 hts gX3_effect_X3_needNumber rfl rfl rfl (by decide +kernel) ⟨Nat.le_of_ble_eq_true rfl, Nat.le_of_ble_eq_true rfl⟩) ⟨bl_T, fun U hU hW => ⟨rfl, trivial⟩⟩ rfl rfl hl.1 rfl (lv_room (Nat.le_of_ble_eq_true rfl)) dX3_effect_1 ⟨Nat.zero_le _, Nat.zero_le _⟩) (fun _ => ?_)
  refine lv_aload_n hx hb dX3_effect_4 rfl (lv_at hl 0 rfl) ?_
  refine lv_iload_n hx hb dX3_effect_5 rfl (lv_at hl 1 rfl) ?_
  refine va_csv (W.runV (As := [.int (nI a)]) (rest := []) ⟨hx, hb, hml, hown, hts⟩ (k_X3_needThere l dC dI A cI cQ σ (a := a) ha h1) (cwV 1 hts gX3_effect_X3_needThere rfl rfl rfl (by decide +kernel) ⟨Nat.le_of_ble_eq_true rfl, Nat.le_of_ble_eq_true rfl⟩) ⟨bl_P, va_recv hK hP (ci := 3) (q0 := 0) rfl rfl, fun U hU hW => ⟨rfl, by rw [hU]; exact hP, hX.warm hW⟩⟩ rfl rfl hl.1 rfl (lv_room (Nat.le_of_ble_eq_true rfl)) dX3_effect_6 ⟨Nat.zero_le _, Nat.zero_le _⟩) (fun _ => ?_)
  refine lv_iload hx hb dX3_effect_9 (lv_at hl 4 rfl) ?_
  refine lv_iload hx hb dX3_effect_11 (lv_at hl 5 rfl) ?_
  refine va_csv (W.runS (As := [.int mm, .int vv]) (rest := []) ⟨hx, hb, hml, hown, hts⟩ (k_X3_needBits l mm vv h2) (va_cwS 2 hts gX3_effect_X3_needBits rfl rfl rfl (by decide +kernel) ⟨Nat.le_of_ble_eq_true rfl, Nat.le_of_ble_eq_true rfl⟩) ⟨bl_T, fun U hU hW => ⟨rfl, trivial⟩⟩ rfl rfl hl.1 rfl (lv_room (Nat.le_of_ble_eq_true rfl)) dX3_effect_13 ⟨Nat.zero_le _, Nat.zero_le _⟩) (fun _ => ?_)
  refine lv_iload_n hx hb dX3_effect_16 rfl (lv_at hl 2 rfl) ?_
  refine lv_if_lt (tgt := 25) hx hb dX3_effect_17 (by decide) (fun c17_0 => ?_) (fun c17_0 => ?_)
  · exact absurd c17_0 h3.1
  · skip
    refine lv_iload_n hx hb dX3_effect_20 rfl (lv_at hl 2 rfl) ?_
    refine lv_iconst (v := 4) hx hb dX3_effect_21 (by decide) ?_
    refine lv_icmp_lt (tgt := 35) hx hb dX3_effect_22 (by decide) (fun c22_1 => ?_) (fun c22_1 => ?_)
    · skip
      refine lv_aload_n hx hb dX3_effect_35 rfl (lv_at hl 0 rfl) ?_
      refine va_get (D := (dC, dI)) (ci := 3) (v := .ref (A 1)) (C := RX3) (T := TX3) (N := 9) hx hb hts hinX3 hown hK hP 0 rfl rfl 0 (by decide) (hts _ (List.mem_of_getElem? (i := 5) rfl)) (fun _ h9 => h9) rfl dX3_effect_36 ?_
      refine lv_iload_n hx hb dX3_effect_39 rfl (lv_at hl 1 rfl) ?_
      refine va_aldq hx hb hK hP 1 1 rfl rfl (vp_in_nI (show a < 8 by omega) (by decide)) dX3_effect_40 ?_
      rw [nI_clamp (show a < 2 ^ 31 by have := (show a < 8 by omega); omega)]
      refine va_getN (D := (dC, dI)) (host := RX3) (ci := 0) (v := .int (acS σ a 3)) (C := RX0) (T := TX0) (N := 5) hx hb hts hinX0 hown hK hP (8 + a) (hf_act ha) rfl 3 (by decide) (va_Nw.use rfl (hX.2.1 _ (List.mem_of_getElem? (i := 5) rfl))) (fun _ h9 => h9) rfl dX3_effect_41 ?_
      refine lv_iconst (v := 4) hx hb dX3_effect_44 (by decide) ?_
      refine lv_icmp_lt (tgt := 58) hx hb dX3_effect_45 (by decide) (fun c45_2 => ?_) (fun c45_2 => ?_)
      · exact absurd c45_2 h
      · skip
        obtain ⟨sa, hsa⟩ := hX.2.2 (77, "the action has all its effects") (List.mem_of_getElem? (i := 5) rfl)
        exact vx_throwS (A := fun q => s.heap.size ≤ q) (cls := nIS) (text := "the action has all its effects") (names := upE) hx hb hlt hown (by decide +kernel) (by decide +kernel) (hts _ (List.mem_of_getElem? (i := 3) rfl)) (hts _ (List.mem_of_getElem? (i := 4) rfl)) hsa (vx_hat (fun w h => hts w (List.mem_cons_of_mem _ (List.mem_append_left _ (List.mem_append_left _ (List.mem_append_right _ h))))) xbIS (hX.xb _)) goIS hH.1 hH.2.1 va_S.rf (hl.1.trans hml.symm) dX3_effect_48 dX3_effect_51 dX3_effect_52 dX3_effect_54 dX3_effect_57 (fun x hx => (hnt x hx).elim) (show 2 + 3 < 30 by omega) (show _ + (13 * (2 + 1) + 43) ≤ 700 by first | decide | (simp only [List.map_cons, List.map_nil, List.sum_cons, List.sum_nil, Value.category]; omega)) (show 0 + 1 ≤ 1 by decide) (show 0 + 6 ≤ 6 by decide) hlocks (fun t _ hz hk => ⟨(), trivial, rfl, hz, fun q hq _ => hk q hq⟩) (fun z h => nomatch h) (show 0 + 1 ≤ 1 by decide) (show 0 + 6 ≤ 6 by decide)
    · exact absurd h3.2 c22_1
set_option maxHeartbeats 4000000 in
set_option maxRecDepth 100000 in
/-- clause: it throws (IA) -/
theorem x_X3_clause_IA (l : Launch) (dC : Nat → ClassId) (dI : Nat → Nat → Nat) (A : Nat → Nat) (cI cQ : ClassId) (σ : HS) (hlt : l.stackTraces = false) (sz : Nat) (mm vv : Int32) (h : ¬ okBits mm vv) : vx_Met l yX3_clause wsX3_clause RMx (va_Pc [.ref (A 0), .int mm, .int vv] (PTw dC dI A cI cQ sz σ)) (qiE sz) (xcE sz nIA) 1 6 (fun q => sz ≤ q) := by
  refine vx_ofW (cc := cX3_clause) (maxL := 3) (ret := (some .int)) (by decide) rfl ?_
  intro p e s m args below meth c s₁ B hml hnt hv
  obtain ⟨rfl, hsz, hP, hX, hH⟩ := hv
  subst hsz
  have hx := B.exec
  have hb := B.bytes
  have hr := B.returns
  have hts := atoms_spec (ws := wsX3_clause) B.pre
  have hown : s.vm.findClass RX3 = some m.cls := findClass_of_methodNamed B.named
  have hlocks := B.notSynchronized
  have hK := hX.1
  have hl := lv_entry ([.ref (A 0), .int mm, .int vv]) (n := 3) (Nat.le_of_ble_eq_true rfl)
  rw [lg_entry_eq]
  generalize (lg_sl ([.ref (A 0), .int mm, .int vv]) ++ List.replicate (3 - (lg_sl ([.ref (A 0), .int mm, .int vv])).length) Slot.unset).toArray = ls at hl ⊢
  have hl : lv_has ls 3 [(0, .ref (A 0)), (1, .int mm), (2, .int vv)] := hl
  refine lv_iload_n hx hb dX3_clause_0 rfl (lv_at hl 1 rfl) ?_
  refine lv_iload_n hx hb dX3_clause_1 rfl (lv_at hl 2 rfl) ?_
  refine vx_callv (A0 := fun q => s.heap.size ≤ q) (vx_runS (As := [.int mm, .int vv]) (rest := []) ⟨hx, hb, hml, hown, hts⟩ (x_X3_needBits l dC dI cI cQ hlt s.heap.size mm vv h) (va_cwS 2 hts gX3_clause_X3_needBits rfl rfl rfl (by decide +kernel) ⟨Nat.le_of_ble_eq_true rfl, Nat.le_of_ble_eq_true rfl⟩) ⟨bl_Ts, fun U hU hW => ⟨rfl, by rw [hU], hX.warm hW, by rw [hU]; exact HX.moved hW.alike hH⟩⟩ rfl rfl hl.1 rfl (lv_room (Nat.le_of_ble_eq_true rfl)) dX3_clause_2 ⟨show 0 + 1 ≤ 1 by decide, show 0 + 6 ≤ 6 by decide⟩) va_S.rf (fun q _ h => h) (fun q h => h) (fun q _ h => h) (fun E ce q9 u t H1 locs1 ht hvm hp hB hz hk hS hc1 hc2 hc3 => ?_) (fun u t H1 locs1 ht hvm hp => hp.elim)
  exact vx_out (fun x hx => (hnt x hx).elim) hlocks hc1 hc2 hc3 (fun t2 ht2 hv2 => ⟨(), trivial, hB, by rw [ht2]; exact hz, fun q hq hnq => by rw [ht2]; exact hk q hq hnq⟩) hS.2.2 (Nat.le_refl _) (Nat.le_refl _)
set_option maxHeartbeats 4000000 in
set_option maxRecDepth 100000 in
/-- clause: it throws (IS) -/
theorem x_X3_clause_IS (l : Launch) (dC : Nat → ClassId) (dI : Nat → Nat → Nat) (A : Nat → Nat) (cI cQ : ClassId) (σ : HS) (hlt : l.stackTraces = false) (sz : Nat) (mm vv : Int32) (h2 : okBits mm vv) (h : ¬ clS σ < 6) : vx_Met l yX3_clause wsX3_clause RMx (va_Pc [.ref (A 0), .int mm, .int vv] (PTw dC dI A cI cQ sz σ)) (qiE sz) (xcE sz nIS) 1 6 (fun q => sz ≤ q) := by
  refine vx_ofW (cc := cX3_clause) (maxL := 3) (ret := (some .int)) (by decide) rfl ?_
  intro p e s m args below meth c s₁ B hml hnt hv
  obtain ⟨rfl, hsz, hP, hX, hH⟩ := hv
  subst hsz
  have hx := B.exec
  have hb := B.bytes
  have hr := B.returns
  have hts := atoms_spec (ws := wsX3_clause) B.pre
  have hown : s.vm.findClass RX3 = some m.cls := findClass_of_methodNamed B.named
  have hlocks := B.notSynchronized
  have hK := hX.1
  have hinX3 : ∀ w ∈ wsX30, w ∈ wsX3_clause := fun _ h => List.mem_cons_of_mem _ (List.mem_append_left _ (List.mem_append_left _ (List.mem_append_right _ h)))
  have hl := lv_entry ([.ref (A 0), .int mm, .int vv]) (n := 3) (Nat.le_of_ble_eq_true rfl)
  rw [lg_entry_eq]
  generalize (lg_sl ([.ref (A 0), .int mm, .int vv]) ++ List.replicate (3 - (lg_sl ([.ref (A 0), .int mm, .int vv])).length) Slot.unset).toArray = ls at hl ⊢
  have hl : lv_has ls 3 [(0, .ref (A 0)), (1, .int mm), (2, .int vv)] := hl
  refine lv_iload_n hx hb dX3_clause_0 rfl (lv_at hl 1 rfl) ?_
  refine lv_iload_n hx hb dX3_clause_1 rfl (lv_at hl 2 rfl) ?_
  refine va_csv (W.runS (As := [.int mm, .int vv]) (rest := []) ⟨hx, hb, hml, hown, hts⟩ (k_X3_needBits l mm vv h2) (va_cwS 2 hts gX3_clause_X3_needBits rfl rfl rfl (by decide +kernel) ⟨Nat.le_of_ble_eq_true rfl, Nat.le_of_ble_eq_true rfl⟩) ⟨bl_T, fun U hU hW => ⟨rfl, trivial⟩⟩ rfl rfl hl.1 rfl (lv_room (Nat.le_of_ble_eq_true rfl)) dX3_clause_2 ⟨Nat.zero_le _, Nat.zero_le _⟩) (fun _ => ?_)
  refine lv_aload_n hx hb dX3_clause_5 rfl (lv_at hl 0 rfl) ?_
  refine va_get (D := (dC, dI)) (ci := 3) (v := .int (clS σ)) (C := RX3) (T := TX3) (N := 9) hx hb hts hinX3 hown hK hP 0 rfl rfl 4 (by decide) (hts _ (List.mem_of_getElem? (i := 3) rfl)) (fun _ h9 => h9) rfl dX3_clause_6 ?_
  refine lv_bipush (v := 6) hx hb dX3_clause_9 (by decide) ?_
  refine lv_icmp_lt (tgt := 24) hx hb dX3_clause_11 (by decide) (fun c11_0 => ?_) (fun c11_0 => ?_)
  · exact absurd c11_0 h
  · skip
    obtain ⟨sa, hsa⟩ := hX.2.2 (87, "all clauses are there") (List.mem_of_getElem? (i := 6) rfl)
    exact vx_throwS (A := fun q => s.heap.size ≤ q) (cls := nIS) (text := "all clauses are there") (names := upE) hx hb hlt hown (by decide +kernel) (by decide +kernel) (hts _ (List.mem_of_getElem? (i := 1) rfl)) (hts _ (List.mem_of_getElem? (i := 2) rfl)) hsa (vx_hat (fun w h => hts w (List.mem_cons_of_mem _ (List.mem_append_left _ (List.mem_append_right _ h)))) xbIS (hX.xb _)) goIS hH.1 hH.2.1 va_S.rf (hl.1.trans hml.symm) dX3_clause_14 dX3_clause_17 dX3_clause_18 dX3_clause_20 dX3_clause_23 (fun x hx => (hnt x hx).elim) (show 2 + 3 < 30 by omega) (show _ + (13 * (2 + 1) + 43) ≤ 700 by first | decide | (simp only [List.map_cons, List.map_nil, List.sum_cons, List.sum_nil, Value.category]; omega)) (show 0 + 1 ≤ 1 by decide) (show 0 + 6 ≤ 6 by decide) hlocks (fun t _ hz hk => ⟨(), trivial, rfl, hz, fun q hq _ => hk q hq⟩) (fun z h => nomatch h) (show 0 + 1 ≤ 1 by decide) (show 0 + 6 ≤ 6 by decide)
set_option maxHeartbeats 4000000 in
set_option maxRecDepth 100000 in
/-- goal: it throws (IA) -/
theorem x_X3_goal_IA (l : Launch) (dC : Nat → ClassId) (dI : Nat → Nat → Nat) (A : Nat → Nat) (cI cQ : ClassId) (σ : HS) (hlt : l.stackTraces = false) (sz : Nat) (mm vv : Int32) (h : ¬ okBits mm vv) : vx_Met l yX3_goal wsX3_goal RMx (va_Pc [.ref (A 0), .int mm, .int vv] (PTw dC dI A cI cQ sz σ)) (qiE sz) (xcE sz nIA) 1 6 (fun q => sz ≤ q) := by
  refine vx_ofW (cc := cX3_goal) (maxL := 3) (ret := (some .int)) (by decide) rfl ?_
  intro p e s m args below meth c s₁ B hml hnt hv
  obtain ⟨rfl, hsz, hP, hX, hH⟩ := hv
  subst hsz
  have hx := B.exec
  have hb := B.bytes
  have hr := B.returns
  have hts := atoms_spec (ws := wsX3_goal) B.pre
  have hown : s.vm.findClass RX3 = some m.cls := findClass_of_methodNamed B.named
  have hlocks := B.notSynchronized
  have hK := hX.1
  have hl := lv_entry ([.ref (A 0), .int mm, .int vv]) (n := 3) (Nat.le_of_ble_eq_true rfl)
  rw [lg_entry_eq]
  generalize (lg_sl ([.ref (A 0), .int mm, .int vv]) ++ List.replicate (3 - (lg_sl ([.ref (A 0), .int mm, .int vv])).length) Slot.unset).toArray = ls at hl ⊢
  have hl : lv_has ls 3 [(0, .ref (A 0)), (1, .int mm), (2, .int vv)] := hl
  refine lv_iload_n hx hb dX3_goal_0 rfl (lv_at hl 1 rfl) ?_
  refine lv_iload_n hx hb dX3_goal_1 rfl (lv_at hl 2 rfl) ?_
  refine vx_callv (A0 := fun q => s.heap.size ≤ q) (vx_runS (As := [.int mm, .int vv]) (rest := []) ⟨hx, hb, hml, hown, hts⟩ (x_X3_needBits l dC dI cI cQ hlt s.heap.size mm vv h) (va_cwS 2 hts gX3_goal_X3_needBits rfl rfl rfl (by decide +kernel) ⟨Nat.le_of_ble_eq_true rfl, Nat.le_of_ble_eq_true rfl⟩) ⟨bl_Ts, fun U hU hW => ⟨rfl, by rw [hU], hX.warm hW, by rw [hU]; exact HX.moved hW.alike hH⟩⟩ rfl rfl hl.1 rfl (lv_room (Nat.le_of_ble_eq_true rfl)) dX3_goal_2 ⟨show 0 + 1 ≤ 1 by decide, show 0 + 6 ≤ 6 by decide⟩) va_S.rf (fun q _ h => h) (fun q h => h) (fun q _ h => h) (fun E ce q9 u t H1 locs1 ht hvm hp hB hz hk hS hc1 hc2 hc3 => ?_) (fun u t H1 locs1 ht hvm hp => hp.elim)
  exact vx_out (fun x hx => (hnt x hx).elim) hlocks hc1 hc2 hc3 (fun t2 ht2 hv2 => ⟨(), trivial, hB, by rw [ht2]; exact hz, fun q hq hnq => by rw [ht2]; exact hk q hq hnq⟩) hS.2.2 (Nat.le_refl _) (Nat.le_refl _)
set_option maxHeartbeats 4000000 in
set_option maxRecDepth 100000 in
/-- behind: it throws (IO) -/
theorem x_X3_behind_IO (l : Launch) (dC : Nat → ClassId) (dI : Nat → Nat → Nat) (A : Nat → Nat) (cI cQ : ClassId) (σ : HS) (hlt : l.stackTraces = false) (sz : Nat) (a b : Int32) (h : a < 0 ∨ ¬ a < 8) : vx_Met l yX3_behind wsX3_behind RMx (va_Pc [.ref (A 0), .int a, .int b] (PTw dC dI A cI cQ sz σ)) (qiE sz) (xcE sz nIO) 1 6 (fun q => sz ≤ q) := by
  refine vx_ofW (cc := cX3_behind) (maxL := 3) (ret := (some .int)) (by decide) rfl ?_
  intro p e s m args below meth c s₁ B hml hnt hv
  obtain ⟨rfl, hsz, hP, hX, hH⟩ := hv
  subst hsz
  have hx := B.exec
  have hb := B.bytes
  have hr := B.returns
  have hts := atoms_spec (ws := wsX3_behind) B.pre
  have hown : s.vm.findClass RX3 = some m.cls := findClass_of_methodNamed B.named
  have hlocks := B.notSynchronized
  have hK := hX.1
  have hl := lv_entry ([.ref (A 0), .int a, .int b]) (n := 3) (Nat.le_of_ble_eq_true rfl)
  rw [lg_entry_eq]
  generalize (lg_sl ([.ref (A 0), .int a, .int b]) ++ List.replicate (3 - (lg_sl ([.ref (A 0), .int a, .int b])).length) Slot.unset).toArray = ls at hl ⊢
  have hl : lv_has ls 3 [(0, .ref (A 0)), (1, .int a), (2, .int b)] := hl
  refine lv_iload_n hx hb dX3_behind_0 rfl (lv_at hl 1 rfl) ?_
  refine vx_callv (A0 := fun q => s.heap.size ≤ q) (vx_runS (As := [.int a]) (rest := []) ⟨hx, hb, hml, hown, hts⟩ (x_X3_needNumber l dC dI cI cQ hlt s.heap.size a h) (va_cwS 1 hts gX3_behind_X3_needNumber rfl rfl rfl (by decide +kernel) ⟨Nat.le_of_ble_eq_true rfl, Nat.le_of_ble_eq_true rfl⟩) ⟨bl_Ts, fun U hU hW => ⟨rfl, by rw [hU], hX.warm hW, by rw [hU]; exact HX.moved hW.alike hH⟩⟩ rfl rfl hl.1 rfl (lv_room (Nat.le_of_ble_eq_true rfl)) dX3_behind_1 ⟨show 0 + 1 ≤ 1 by decide, show 0 + 6 ≤ 6 by decide⟩) va_S.rf (fun q _ h => h) (fun q h => h) (fun q _ h => h) (fun E ce q9 u t H1 locs1 ht hvm hp hB hz hk hS hc1 hc2 hc3 => ?_) (fun u t H1 locs1 ht hvm hp => hp.elim)
  exact vx_out (fun x hx => (hnt x hx).elim) hlocks hc1 hc2 hc3 (fun t2 ht2 hv2 => ⟨(), trivial, hB, by rw [ht2]; exact hz, fun q hq hnq => by rw [ht2]; exact hk q hq hnq⟩) hS.2.2 (Nat.le_refl _) (Nat.le_refl _)
set_option maxHeartbeats 4000000 in
set_option maxRecDepth 100000 in
/-- behind: it throws (NS) -/
theorem x_X3_behind_NS (l : Launch) (dC : Nat → ClassId) (dI : Nat → Nat → Nat) (A : Nat → Nat) (cI cQ : ClassId) (σ : HS) (hlt : l.stackTraces = false) (sz : Nat) {a : Nat} (ha : a < 8) (b : Int32) (h : acS σ a 0 = 0) : vx_Met l yX3_behind wsX3_behind RMx (va_Pc [.ref (A 0), .int (nI a), .int b] (PTw dC dI A cI cQ sz σ)) (qiE sz) (xcE sz nNS) 1 6 (fun q => sz ≤ q) := by
  refine vx_ofW (cc := cX3_behind) (maxL := 3) (ret := (some .int)) (by decide) rfl ?_
  intro p e s m args below meth c s₁ B hml hnt hv
  obtain ⟨rfl, hsz, hP, hX, hH⟩ := hv
  subst hsz
  have hx := B.exec
  have hb := B.bytes
  have hr := B.returns
  have hts := atoms_spec (ws := wsX3_behind) B.pre
  have hown : s.vm.findClass RX3 = some m.cls := findClass_of_methodNamed B.named
  have hlocks := B.notSynchronized
  have hK := hX.1
  have hinX3 : ∀ w ∈ wsX30, w ∈ wsX3_behind := fun _ h => List.mem_cons_of_mem _ (List.mem_append_left _ (List.mem_append_left _ (List.mem_append_left _ (List.mem_append_left _ (List.mem_append_left _ (List.mem_append_right _ h))))))
  have hl := lv_entry ([.ref (A 0), .int (nI a), .int b]) (n := 3) (Nat.le_of_ble_eq_true rfl)
  rw [lg_entry_eq]
  generalize (lg_sl ([.ref (A 0), .int (nI a), .int b]) ++ List.replicate (3 - (lg_sl ([.ref (A 0), .int (nI a), .int b])).length) Slot.unset).toArray = ls at hl ⊢
  have hl : lv_has ls 3 [(0, .ref (A 0)), (1, .int (nI a)), (2, .int b)] := hl
  refine lv_iload_n hx hb dX3_behind_0 rfl (lv_at hl 1 rfl) ?_
  refine va_csv (W.runS (As := [.int (nI a)]) (rest := []) ⟨hx, hb, hml, hown, hts⟩ (k_X3_needNumber l (nI a) ⟨nI_pos (by omega), nI_lt (b := 8) ha (by decide)⟩) (va_cwS 1 hts gX3_behind_X3_needNumber rfl rfl rfl (by decide +kernel) ⟨Nat.le_of_ble_eq_true rfl, Nat.le_of_ble_eq_true rfl⟩) ⟨bl_T, fun U hU hW => ⟨rfl, trivial⟩⟩ rfl rfl hl.1 rfl (lv_room (Nat.le_of_ble_eq_true rfl)) dX3_behind_1 ⟨Nat.zero_le _, Nat.zero_le _⟩) (fun _ => ?_)
  refine lv_aload_n hx hb dX3_behind_4 rfl (lv_at hl 0 rfl) ?_
  refine lv_iload_n hx hb dX3_behind_5 rfl (lv_at hl 1 rfl) ?_
  refine vx_callv (A0 := fun q => s.heap.size ≤ q) (vx_runV (As := [.int (nI a)]) (rest := []) ⟨hx, hb, hml, hown, hts⟩ (x_X3_needThere l dC dI A cI cQ σ hlt s.heap.size (a := a) ha h) (cwV 1 hts gX3_behind_X3_needThere rfl rfl rfl (by decide +kernel) ⟨Nat.le_of_ble_eq_true rfl, Nat.le_of_ble_eq_true rfl⟩) ⟨bl_Tw, va_recv hK hP (ci := 3) (q0 := 0) rfl rfl, fun U hU hW => ⟨rfl, by rw [hU], by rw [hU]; exact hP, hX.warm hW, by rw [hU]; exact HX.moved hW.alike hH⟩⟩ rfl rfl hl.1 rfl (lv_room (Nat.le_of_ble_eq_true rfl)) dX3_behind_6 ⟨show 0 + 1 ≤ 1 by decide, show 0 + 6 ≤ 6 by decide⟩) va_S.rf (fun q _ h => h) (fun q h => h) (fun q _ h => h) (fun E ce q9 u t H1 locs1 ht hvm hp hB hz hk hS hc1 hc2 hc3 => ?_) (fun u t H1 locs1 ht hvm hp => hp.elim)
  exact vx_out (fun x hx => (hnt x hx).elim) hlocks hc1 hc2 hc3 (fun t2 ht2 hv2 => ⟨(), trivial, hB, by rw [ht2]; exact hz, fun q hq hnq => by rw [ht2]; exact hk q hq hnq⟩) hS.2.2 (Nat.le_refl _) (Nat.le_refl _)
set_option maxHeartbeats 4000000 in
set_option maxRecDepth 100000 in
/-- behind: it throws (IA) -/
theorem x_X3_behind_IA (l : Launch) (dC : Nat → ClassId) (dI : Nat → Nat → Nat) (A : Nat → Nat) (cI cQ : ClassId) (σ : HS) (hlt : l.stackTraces = false) (sz : Nat) {a : Nat} (ha : a < 8) (b : Int32) (h1 : ¬ acS σ a 0 = 0) (h : b < 0 ∨ ¬ b ≤ 65535) : vx_Met l yX3_behind wsX3_behind RMx (va_Pc [.ref (A 0), .int (nI a), .int b] (PTw dC dI A cI cQ sz σ)) (qiE sz) (xcE sz nIA) 1 6 (fun q => sz ≤ q) := by
  refine vx_ofW (cc := cX3_behind) (maxL := 3) (ret := (some .int)) (by decide) rfl ?_
  intro p e s m args below meth c s₁ B hml hnt hv
  obtain ⟨rfl, hsz, hP, hX, hH⟩ := hv
  subst hsz
  have hx := B.exec
  have hb := B.bytes
  have hr := B.returns
  have hts := atoms_spec (ws := wsX3_behind) B.pre
  have hown : s.vm.findClass RX3 = some m.cls := findClass_of_methodNamed B.named
  have hlocks := B.notSynchronized
  have hK := hX.1
  have hinX3 : ∀ w ∈ wsX30, w ∈ wsX3_behind := fun _ h => List.mem_cons_of_mem _ (List.mem_append_left _ (List.mem_append_left _ (List.mem_append_left _ (List.mem_append_left _ (List.mem_append_left _ (List.mem_append_right _ h))))))
  have hl := lv_entry ([.ref (A 0), .int (nI a), .int b]) (n := 3) (Nat.le_of_ble_eq_true rfl)
  rw [lg_entry_eq]
  generalize (lg_sl ([.ref (A 0), .int (nI a), .int b]) ++ List.replicate (3 - (lg_sl ([.ref (A 0), .int (nI a), .int b])).length) Slot.unset).toArray = ls at hl ⊢
  have hl : lv_has ls 3 [(0, .ref (A 0)), (1, .int (nI a)), (2, .int b)] := hl
  refine lv_iload_n hx hb dX3_behind_0 rfl (lv_at hl 1 rfl) ?_
  refine va_csv (W.runS (As := [.int (nI a)]) (rest := []) ⟨hx, hb, hml, hown, hts⟩ (k_X3_needNumber l (nI a) ⟨nI_pos (by omega), nI_lt (b := 8) ha (by decide)⟩) (va_cwS 1 hts gX3_behind_X3_needNumber rfl rfl rfl (by decide +kernel) ⟨Nat.le_of_ble_eq_true rfl, Nat.le_of_ble_eq_true rfl⟩) ⟨bl_T, fun U hU hW => ⟨rfl, trivial⟩⟩ rfl rfl hl.1 rfl (lv_room (Nat.le_of_ble_eq_true rfl)) dX3_behind_1 ⟨Nat.zero_le _, Nat.zero_le _⟩) (fun _ => ?_)
  refine lv_aload_n hx hb dX3_behind_4 rfl (lv_at hl 0 rfl) ?_
  refine lv_iload_n hx hb dX3_behind_5 rfl (lv_at hl 1 rfl) ?_
  refine va_csv (W.runV (As := [.int (nI a)]) (rest := []) ⟨hx, hb, hml, hown, hts⟩ (k_X3_needThere l dC dI A cI cQ σ (a := a) ha h1) (cwV 1 hts gX3_behind_X3_needThere rfl rfl rfl (by decide +kernel) ⟨Nat.le_of_ble_eq_true rfl, Nat.le_of_ble_eq_true rfl⟩) ⟨bl_P, va_recv hK hP (ci := 3) (q0 := 0) rfl rfl, fun U hU hW => ⟨rfl, by rw [hU]; exact hP, hX.warm hW⟩⟩ rfl rfl hl.1 rfl (lv_room (Nat.le_of_ble_eq_true rfl)) dX3_behind_6 ⟨Nat.zero_le _, Nat.zero_le _⟩) (fun _ => ?_)
  refine lv_iload_n hx hb dX3_behind_9 rfl (lv_at hl 2 rfl) ?_
  refine lv_if_lt (tgt := 19) hx hb dX3_behind_10 (by decide) (fun c10_0 => ?_) (fun c10_0 => ?_)
  · skip
    obtain ⟨sa, hsa⟩ := hX.2.2 (105, "no belief") (List.mem_of_getElem? (i := 7) rfl)
    exact vx_throwS (A := fun q => s.heap.size ≤ q) (cls := nIA) (text := "no belief") (names := upE) hx hb hlt hown (by decide +kernel) (by decide +kernel) (hts _ (List.mem_of_getElem? (i := 1) rfl)) (hts _ (List.mem_of_getElem? (i := 2) rfl)) hsa (vx_hat (fun w h => hts w (List.mem_cons_of_mem _ (List.mem_append_left _ (List.mem_append_left _ (List.mem_append_left _ (List.mem_append_right _ h)))))) xbIA (hX.xb _)) goIA hH.1 hH.2.1 va_S.rf (hl.1.trans hml.symm) dX3_behind_19 dX3_behind_22 dX3_behind_23 dX3_behind_25 dX3_behind_28 (fun x hx => (hnt x hx).elim) (show 2 + 3 < 30 by omega) (show _ + (13 * (2 + 1) + 43) ≤ 700 by first | decide | (simp only [List.map_cons, List.map_nil, List.sum_cons, List.sum_nil, Value.category]; omega)) (show 0 + 1 ≤ 1 by decide) (show 0 + 6 ≤ 6 by decide) hlocks (fun t _ hz hk => ⟨(), trivial, rfl, hz, fun q hq _ => hk q hq⟩) (fun z h => nomatch h) (show 0 + 1 ≤ 1 by decide) (show 0 + 6 ≤ 6 by decide)
  · skip
    refine lv_iload_n hx hb dX3_behind_13 rfl (lv_at hl 2 rfl) ?_
    refine lv_ldc (v := (65535)) hx hb hown (hts _ (List.mem_of_getElem? (i := 5) rfl)) dX3_behind_14 ?_
    refine lv_icmp_le (tgt := 29) hx hb dX3_behind_16 (by decide) (fun c16_1 => ?_) (fun c16_1 => ?_)
    · exact absurd h (by rintro (z | z); exact c10_0 z; exact z c16_1)
    · skip
      obtain ⟨sa, hsa⟩ := hX.2.2 (105, "no belief") (List.mem_of_getElem? (i := 7) rfl)
      exact vx_throwS (A := fun q => s.heap.size ≤ q) (cls := nIA) (text := "no belief") (names := upE) hx hb hlt hown (by decide +kernel) (by decide +kernel) (hts _ (List.mem_of_getElem? (i := 1) rfl)) (hts _ (List.mem_of_getElem? (i := 2) rfl)) hsa (vx_hat (fun w h => hts w (List.mem_cons_of_mem _ (List.mem_append_left _ (List.mem_append_left _ (List.mem_append_left _ (List.mem_append_right _ h)))))) xbIA (hX.xb _)) goIA hH.1 hH.2.1 va_S.rf (hl.1.trans hml.symm) dX3_behind_19 dX3_behind_22 dX3_behind_23 dX3_behind_25 dX3_behind_28 (fun x hx => (hnt x hx).elim) (show 2 + 3 < 30 by omega) (show _ + (13 * (2 + 1) + 43) ≤ 700 by first | decide | (simp only [List.map_cons, List.map_nil, List.sum_cons, List.sum_nil, Value.category]; omega)) (show 0 + 1 ≤ 1 by decide) (show 0 + 6 ≤ 6 by decide) hlocks (fun t _ hz hk => ⟨(), trivial, rfl, hz, fun q hq _ => hk q hq⟩) (fun z h => nomatch h) (show 0 + 1 ≤ 1 by decide) (show 0 + 6 ≤ 6 by decide)
set_option maxHeartbeats 4000000 in
set_option maxRecDepth 100000 in
/-- behind: it throws (UO) -/
theorem x_X3_behind_UO (l : Launch) (dC : Nat → ClassId) (dI : Nat → Nat → Nat) (A : Nat → Nat) (cI cQ : ClassId) (σ : HS) (hlt : l.stackTraces = false) (sz : Nat) {a : Nat} (ha : a < 8) (b : Int32) (h1 : ¬ acS σ a 0 = 0) (h2 : ¬ b < 0 ∧ b ≤ 65535) (h : usS σ a b = false) : vx_Met l yX3_behind wsX3_behind RMx (va_Pc [.ref (A 0), .int (nI a), .int b] (PTw dC dI A cI cQ sz σ)) (qiE sz) (xcE sz nUO) 1 6 (fun q => sz ≤ q) := by
  refine vx_ofW (cc := cX3_behind) (maxL := 3) (ret := (some .int)) (by decide) rfl ?_
  intro p e s m args below meth c s₁ B hml hnt hv
  obtain ⟨rfl, hsz, hP, hX, hH⟩ := hv
  subst hsz
  have hx := B.exec
  have hb := B.bytes
  have hr := B.returns
  have hts := atoms_spec (ws := wsX3_behind) B.pre
  have hown : s.vm.findClass RX3 = some m.cls := findClass_of_methodNamed B.named
  have hlocks := B.notSynchronized
  have hK := hX.1
  have hinX3 : ∀ w ∈ wsX30, w ∈ wsX3_behind := fun _ h => List.mem_cons_of_mem _ (List.mem_append_left _ (List.mem_append_left _ (List.mem_append_left _ (List.mem_append_left _ (List.mem_append_left _ (List.mem_append_right _ h))))))
  have hinX0 : ∀ w ∈ wsX00, w ∈ wsX3_behind := fun _ h => List.mem_cons_of_mem _ (List.mem_append_left _ (List.mem_append_left _ (List.mem_append_left _ (List.mem_append_left _ (List.mem_append_right _ h)))))
  have hl := lv_entry ([.ref (A 0), .int (nI a), .int b]) (n := 3) (Nat.le_of_ble_eq_true rfl)
  rw [lg_entry_eq]
  generalize (lg_sl ([.ref (A 0), .int (nI a), .int b]) ++ List.replicate (3 - (lg_sl ([.ref (A 0), .int (nI a), .int b])).length) Slot.unset).toArray = ls at hl ⊢
  have hl : lv_has ls 3 [(0, .ref (A 0)), (1, .int (nI a)), (2, .int b)] := hl
  refine lv_iload_n hx hb dX3_behind_0 rfl (lv_at hl 1 rfl) ?_
  refine va_csv (W.runS (As := [.int (nI a)]) (rest := []) ⟨hx, hb, hml, hown, hts⟩ (k_X3_needNumber l (nI a) ⟨nI_pos (by omega), nI_lt (b := 8) ha (by decide)⟩) (va_cwS 1 hts gX3_behind_X3_needNumber rfl rfl rfl (by decide +kernel) ⟨Nat.le_of_ble_eq_true rfl, Nat.le_of_ble_eq_true rfl⟩) ⟨bl_T, fun U hU hW => ⟨rfl, trivial⟩⟩ rfl rfl hl.1 rfl (lv_room (Nat.le_of_ble_eq_true rfl)) dX3_behind_1 ⟨Nat.zero_le _, Nat.zero_le _⟩) (fun _ => ?_)
  refine lv_aload_n hx hb dX3_behind_4 rfl (lv_at hl 0 rfl) ?_
  refine lv_iload_n hx hb dX3_behind_5 rfl (lv_at hl 1 rfl) ?_
  refine va_csv (W.runV (As := [.int (nI a)]) (rest := []) ⟨hx, hb, hml, hown, hts⟩ (k_X3_needThere l dC dI A cI cQ σ (a := a) ha h1) (cwV 1 hts gX3_behind_X3_needThere rfl rfl rfl (by decide +kernel) ⟨Nat.le_of_ble_eq_true rfl, Nat.le_of_ble_eq_true rfl⟩) ⟨bl_P, va_recv hK hP (ci := 3) (q0 := 0) rfl rfl, fun U hU hW => ⟨rfl, by rw [hU]; exact hP, hX.warm hW⟩⟩ rfl rfl hl.1 rfl (lv_room (Nat.le_of_ble_eq_true rfl)) dX3_behind_6 ⟨Nat.zero_le _, Nat.zero_le _⟩) (fun _ => ?_)
  refine lv_iload_n hx hb dX3_behind_9 rfl (lv_at hl 2 rfl) ?_
  refine lv_if_lt (tgt := 19) hx hb dX3_behind_10 (by decide) (fun c10_0 => ?_) (fun c10_0 => ?_)
  · exact absurd c10_0 h2.1
  · skip
    refine lv_iload_n hx hb dX3_behind_13 rfl (lv_at hl 2 rfl) ?_
    refine lv_ldc (v := (65535)) hx hb hown (hts _ (List.mem_of_getElem? (i := 5) rfl)) dX3_behind_14 ?_
    refine lv_icmp_le (tgt := 29) hx hb dX3_behind_16 (by decide) (fun c16_1 => ?_) (fun c16_1 => ?_)
    · skip
      refine lv_aload_n hx hb dX3_behind_29 rfl (lv_at hl 0 rfl) ?_
      refine va_get (D := (dC, dI)) (ci := 3) (v := .ref (A 1)) (C := RX3) (T := TX3) (N := 9) hx hb hts hinX3 hown hK hP 0 rfl rfl 0 (by decide) (hts _ (List.mem_of_getElem? (i := 6) rfl)) (fun _ h9 => h9) rfl dX3_behind_30 ?_
      refine lv_iload_n hx hb dX3_behind_33 rfl (lv_at hl 1 rfl) ?_
      refine va_aldq hx hb hK hP 1 1 rfl rfl (vp_in_nI (show a < 8 by omega) (by decide)) dX3_behind_34 ?_
      rw [nI_clamp (show a < 2 ^ 31 by have := (show a < 8 by omega); omega)]
      refine lv_iload_n hx hb dX3_behind_35 rfl (lv_at hl 2 rfl) ?_
      refine vp_callSi (W.runV (As := [.int b]) (rest := []) ⟨hx, hb, hml, hown, hts⟩ (c_X0_usable l dC dI A cI cQ σ ha b) (cwV 1 hts gX3_behind_X0_usable rfl rfl rfl (by decide +kernel) ⟨Nat.le_of_ble_eq_true rfl, Nat.le_of_ble_eq_true rfl⟩) ⟨bl_P, va_recv hK hP (ci := 0) (q0 := (8 + a)) rfl (hf_act ha), fun U hU hW => ⟨rfl, by rw [hU]; exact hP, hX.warm hW⟩⟩ rfl rfl hl.1 rfl (lv_room (Nat.le_of_ble_eq_true rfl)) dX3_behind_36 ⟨Nat.zero_le _, Nat.zero_le _⟩) (fun r er => ?_)
      obtain rfl : r = b2i (usS σ a b) := er
      refine lv_if_ne (tgt := 52) hx hb dX3_behind_39 (by decide) (fun c39_2 => ?_) (fun c39_2 => ?_)
      · exact absurd (b2i_0.mpr h) c39_2
      · skip
        obtain ⟨sa, hsa⟩ := hX.2.2 (113, "the action is not usable in the belief") (List.mem_of_getElem? (i := 8) rfl)
        exact vx_throwS (A := fun q => s.heap.size ≤ q) (cls := nUO) (text := "the action is not usable in the belief") (names := upE) hx hb hlt hown (by decide +kernel) (by decide +kernel) (hts _ (List.mem_of_getElem? (i := 3) rfl)) (hts _ (List.mem_of_getElem? (i := 4) rfl)) hsa (vx_hat (fun w h => hts w (List.mem_cons_of_mem _ (List.mem_append_left _ (List.mem_append_left _ (List.mem_append_right _ h))))) xbUO (hX.xb _)) goUO hH.1 hH.2.1 va_S.rf (hl.1.trans hml.symm) dX3_behind_42 dX3_behind_45 dX3_behind_46 dX3_behind_48 dX3_behind_51 (fun x hx => (hnt x hx).elim) (show 2 + 3 < 30 by omega) (show _ + (13 * (2 + 1) + 43) ≤ 700 by first | decide | (simp only [List.map_cons, List.map_nil, List.sum_cons, List.sum_nil, Value.category]; omega)) (show 0 + 1 ≤ 1 by decide) (show 0 + 6 ≤ 6 by decide) hlocks (fun t _ hz hk => ⟨(), trivial, rfl, hz, fun q hq _ => hk q hq⟩) (fun z h => nomatch h) (show 0 + 1 ≤ 1 by decide) (show 0 + 6 ≤ 6 by decide)
    · exact absurd h2.2 c16_1
set_option maxHeartbeats 4000000 in
set_option maxRecDepth 100000 in
/-- least: it throws (IA1) -/
theorem x_X3_least_IA1 (l : Launch) (dC : Nat → ClassId) (dI : Nat → Nat → Nat) (A : Nat → Nat) (cI cQ : ClassId) (σ : HS) (hlt : l.stackTraces = false) (sz : Nat) (b x : Int32) (h : b < 1 ∨ ¬ b ≤ 65535) : vx_Met l yX3_least wsX3_least RMx (va_Pc [.ref (A 0), .int b, .int x] (PTw dC dI A cI cQ sz σ)) (qiE sz) (xcE sz nIA) 1 6 (fun q => sz ≤ q) := by
  refine vx_ofW (cc := cX3_least) (maxL := 3) (ret := (some .int)) (by decide) rfl ?_
  intro p e s m args below meth c s₁ B hml hnt hv
  obtain ⟨rfl, hsz, hP, hX, hH⟩ := hv
  subst hsz
  have hx := B.exec
  have hb := B.bytes
  have hr := B.returns
  have hts := atoms_spec (ws := wsX3_least) B.pre
  have hown : s.vm.findClass RX3 = some m.cls := findClass_of_methodNamed B.named
  have hlocks := B.notSynchronized
  have hK := hX.1
  have hl := lv_entry ([.ref (A 0), .int b, .int x]) (n := 3) (Nat.le_of_ble_eq_true rfl)
  rw [lg_entry_eq]
  generalize (lg_sl ([.ref (A 0), .int b, .int x]) ++ List.replicate (3 - (lg_sl ([.ref (A 0), .int b, .int x])).length) Slot.unset).toArray = ls at hl ⊢
  have hl : lv_has ls 3 [(0, .ref (A 0)), (1, .int b), (2, .int x)] := hl
  refine lv_iload_n hx hb dX3_least_0 rfl (lv_at hl 1 rfl) ?_
  refine lv_iconst (v := 1) hx hb dX3_least_1 (by decide) ?_
  refine lv_icmp_lt (tgt := 11) hx hb dX3_least_2 (by decide) (fun c2_0 => ?_) (fun c2_0 => ?_)
  · skip
    obtain ⟨sa, hsa⟩ := hX.2.2 (119, "no belief, or the empty one") (List.mem_of_getElem? (i := 9) rfl)
    exact vx_throwS (A := fun q => s.heap.size ≤ q) (cls := nIA) (text := "no belief, or the empty one") (names := upE) hx hb hlt hown (by decide +kernel) (by decide +kernel) (hts _ (List.mem_of_getElem? (i := 1) rfl)) (hts _ (List.mem_of_getElem? (i := 2) rfl)) hsa (vx_hat (fun w h => hts w (List.mem_cons_of_mem _ (List.mem_append_left _ (List.mem_append_right _ h)))) xbIA (hX.xb _)) goIA hH.1 hH.2.1 va_S.rf (hl.1.trans hml.symm) dX3_least_11 dX3_least_14 dX3_least_15 dX3_least_17 dX3_least_20 (fun x hx => (hnt x hx).elim) (show 2 + 3 < 30 by omega) (show _ + (13 * (2 + 1) + 43) ≤ 700 by first | decide | (simp only [List.map_cons, List.map_nil, List.sum_cons, List.sum_nil, Value.category]; omega)) (show 0 + 1 ≤ 1 by decide) (show 0 + 6 ≤ 6 by decide) hlocks (fun t _ hz hk => ⟨(), trivial, rfl, hz, fun q hq _ => hk q hq⟩) (fun z h => nomatch h) (show 0 + 1 ≤ 1 by decide) (show 0 + 6 ≤ 6 by decide)
  · skip
    refine lv_iload_n hx hb dX3_least_5 rfl (lv_at hl 1 rfl) ?_
    refine lv_ldc (v := (65535)) hx hb hown (hts _ (List.mem_of_getElem? (i := 3) rfl)) dX3_least_6 ?_
    refine lv_icmp_le (tgt := 21) hx hb dX3_least_8 (by decide) (fun c8_1 => ?_) (fun c8_1 => ?_)
    · exact absurd h (by rintro (z | z); exact c2_0 z; exact z c8_1)
    · skip
      obtain ⟨sa, hsa⟩ := hX.2.2 (119, "no belief, or the empty one") (List.mem_of_getElem? (i := 9) rfl)
      exact vx_throwS (A := fun q => s.heap.size ≤ q) (cls := nIA) (text := "no belief, or the empty one") (names := upE) hx hb hlt hown (by decide +kernel) (by decide +kernel) (hts _ (List.mem_of_getElem? (i := 1) rfl)) (hts _ (List.mem_of_getElem? (i := 2) rfl)) hsa (vx_hat (fun w h => hts w (List.mem_cons_of_mem _ (List.mem_append_left _ (List.mem_append_right _ h)))) xbIA (hX.xb _)) goIA hH.1 hH.2.1 va_S.rf (hl.1.trans hml.symm) dX3_least_11 dX3_least_14 dX3_least_15 dX3_least_17 dX3_least_20 (fun x hx => (hnt x hx).elim) (show 2 + 3 < 30 by omega) (show _ + (13 * (2 + 1) + 43) ≤ 700 by first | decide | (simp only [List.map_cons, List.map_nil, List.sum_cons, List.sum_nil, Value.category]; omega)) (show 0 + 1 ≤ 1 by decide) (show 0 + 6 ≤ 6 by decide) hlocks (fun t _ hz hk => ⟨(), trivial, rfl, hz, fun q hq _ => hk q hq⟩) (fun z h => nomatch h) (show 0 + 1 ≤ 1 by decide) (show 0 + 6 ≤ 6 by decide)
set_option maxHeartbeats 4000000 in
set_option maxRecDepth 100000 in
/-- least: it throws (IA2) -/
theorem x_X3_least_IA2 (l : Launch) (dC : Nat → ClassId) (dI : Nat → Nat → Nat) (A : Nat → Nat) (cI cQ : ClassId) (σ : HS) (hlt : l.stackTraces = false) (sz : Nat) (b x : Int32) (h1 : ¬ b < 1 ∧ b ≤ 65535) (h : ¬ okDepth x) : vx_Met l yX3_least wsX3_least RMx (va_Pc [.ref (A 0), .int b, .int x] (PTw dC dI A cI cQ sz σ)) (qiE sz) (xcE sz nIA) 1 6 (fun q => sz ≤ q) := by
  refine vx_ofW (cc := cX3_least) (maxL := 3) (ret := (some .int)) (by decide) rfl ?_
  intro p e s m args below meth c s₁ B hml hnt hv
  obtain ⟨rfl, hsz, hP, hX, hH⟩ := hv
  subst hsz
  have hx := B.exec
  have hb := B.bytes
  have hr := B.returns
  have hts := atoms_spec (ws := wsX3_least) B.pre
  have hown : s.vm.findClass RX3 = some m.cls := findClass_of_methodNamed B.named
  have hlocks := B.notSynchronized
  have hK := hX.1
  have hl := lv_entry ([.ref (A 0), .int b, .int x]) (n := 3) (Nat.le_of_ble_eq_true rfl)
  rw [lg_entry_eq]
  generalize (lg_sl ([.ref (A 0), .int b, .int x]) ++ List.replicate (3 - (lg_sl ([.ref (A 0), .int b, .int x])).length) Slot.unset).toArray = ls at hl ⊢
  have hl : lv_has ls 3 [(0, .ref (A 0)), (1, .int b), (2, .int x)] := hl
  refine lv_iload_n hx hb dX3_least_0 rfl (lv_at hl 1 rfl) ?_
  refine lv_iconst (v := 1) hx hb dX3_least_1 (by decide) ?_
  refine lv_icmp_lt (tgt := 11) hx hb dX3_least_2 (by decide) (fun c2_0 => ?_) (fun c2_0 => ?_)
  · exact absurd c2_0 h1.1
  · skip
    refine lv_iload_n hx hb dX3_least_5 rfl (lv_at hl 1 rfl) ?_
    refine lv_ldc (v := (65535)) hx hb hown (hts _ (List.mem_of_getElem? (i := 3) rfl)) dX3_least_6 ?_
    refine lv_icmp_le (tgt := 21) hx hb dX3_least_8 (by decide) (fun c8_1 => ?_) (fun c8_1 => ?_)
    · skip
      refine lv_iload_n hx hb dX3_least_21 rfl (lv_at hl 2 rfl) ?_
      refine vx_callv (A0 := fun q => s.heap.size ≤ q) (vx_runS (As := [.int x]) (rest := []) ⟨hx, hb, hml, hown, hts⟩ (x_X3_needDepth l dC dI cI cQ hlt s.heap.size x h) (va_cwS 1 hts gX3_least_X3_needDepth rfl rfl rfl (by decide +kernel) ⟨Nat.le_of_ble_eq_true rfl, Nat.le_of_ble_eq_true rfl⟩) ⟨bl_Ts, fun U hU hW => ⟨rfl, by rw [hU], hX.warm hW, by rw [hU]; exact HX.moved hW.alike hH⟩⟩ rfl rfl hl.1 rfl (lv_room (Nat.le_of_ble_eq_true rfl)) dX3_least_22 ⟨show 0 + 1 ≤ 1 by decide, show 0 + 6 ≤ 6 by decide⟩) va_S.rf (fun q _ h => h) (fun q h => h) (fun q _ h => h) (fun E ce q9 u t H1 locs1 ht hvm hp hB hz hk hS hc1 hc2 hc3 => ?_) (fun u t H1 locs1 ht hvm hp => hp.elim)
      exact vx_out (fun x hx => (hnt x hx).elim) hlocks hc1 hc2 hc3 (fun t2 ht2 hv2 => ⟨(), trivial, hB, by rw [ht2]; exact hz, fun q hq hnq => by rw [ht2]; exact hk q hq hnq⟩) hS.2.2 (Nat.le_refl _) (Nat.le_refl _)
    · exact absurd h1.2 c8_1
set_option maxHeartbeats 4000000 in
set_option maxRecDepth 100000 in
/-- least: it throws (NS) -/
theorem x_X3_least_NS (l : Launch) (dC : Nat → ClassId) (dI : Nat → Nat → Nat) (A : Nat → Nat) (cI cQ : ClassId) (σ : HS) (hlt : l.stackTraces = false) (sz : Nat) (b : Int32) {q : Nat} (hq : q ≤ 4) (h1 : ¬ b < 1 ∧ b ≤ 65535) (h : fewS σ b q = none) : vx_Met l yX3_least wsX3_least RMx (va_Pc [.ref (A 0), .int b, .int (nI q)] (PTw dC dI A cI cQ sz σ)) (qiE sz) (xcE sz nNS) 1 6 (fun q => sz ≤ q) := by
  refine vx_ofW (cc := cX3_least) (maxL := 3) (ret := (some .int)) (by decide) rfl ?_
  intro p e s m args below meth c s₁ B hml hnt hv
  obtain ⟨rfl, hsz, hP, hX, hH⟩ := hv
  subst hsz
  have hx := B.exec
  have hb := B.bytes
  have hr := B.returns
  have hts := atoms_spec (ws := wsX3_least) B.pre
  have hown : s.vm.findClass RX3 = some m.cls := findClass_of_methodNamed B.named
  have hlocks := B.notSynchronized
  have hK := hX.1
  have hinX3 : ∀ w ∈ wsX30, w ∈ wsX3_least := fun _ h => List.mem_cons_of_mem _ (List.mem_append_left _ (List.mem_append_left _ (List.mem_append_left _ (List.mem_append_right _ h))))
  have hl := lv_entry ([.ref (A 0), .int b, .int (nI q)]) (n := 3) (Nat.le_of_ble_eq_true rfl)
  rw [lg_entry_eq]
  generalize (lg_sl ([.ref (A 0), .int b, .int (nI q)]) ++ List.replicate (3 - (lg_sl ([.ref (A 0), .int b, .int (nI q)])).length) Slot.unset).toArray = ls at hl ⊢
  have hl : lv_has ls 3 [(0, .ref (A 0)), (1, .int b), (2, .int (nI q))] := hl
  refine lv_iload_n hx hb dX3_least_0 rfl (lv_at hl 1 rfl) ?_
  refine lv_iconst (v := 1) hx hb dX3_least_1 (by decide) ?_
  refine lv_icmp_lt (tgt := 11) hx hb dX3_least_2 (by decide) (fun c2_0 => ?_) (fun c2_0 => ?_)
  · exact absurd c2_0 h1.1
  · skip
    refine lv_iload_n hx hb dX3_least_5 rfl (lv_at hl 1 rfl) ?_
    refine lv_ldc (v := (65535)) hx hb hown (hts _ (List.mem_of_getElem? (i := 3) rfl)) dX3_least_6 ?_
    refine lv_icmp_le (tgt := 21) hx hb dX3_least_8 (by decide) (fun c8_1 => ?_) (fun c8_1 => ?_)
    · skip
      refine lv_iload_n hx hb dX3_least_21 rfl (lv_at hl 2 rfl) ?_
      refine va_csv (W.runS (As := [.int (nI q)]) (rest := []) ⟨hx, hb, hml, hown, hts⟩ (k_X3_needDepth l (nI q) ⟨nI_pos (by omega), nI_le (b := 4) hq (by decide)⟩) (va_cwS 1 hts gX3_least_X3_needDepth rfl rfl rfl (by decide +kernel) ⟨Nat.le_of_ble_eq_true rfl, Nat.le_of_ble_eq_true rfl⟩) ⟨bl_T, fun U hU hW => ⟨rfl, trivial⟩⟩ rfl rfl hl.1 rfl (lv_room (Nat.le_of_ble_eq_true rfl)) dX3_least_22 ⟨Nat.zero_le _, Nat.zero_le _⟩) (fun _ => ?_)
      refine lv_aload_n hx hb dX3_least_25 rfl (lv_at hl 0 rfl) ?_
      refine lv_iload_n hx hb dX3_least_26 rfl (lv_at hl 1 rfl) ?_
      refine lv_iload_n hx hb dX3_least_27 rfl (lv_at hl 2 rfl) ?_
      refine vp_callSi (W.runV (As := [.int b, .int (nI q)]) (rest := []) ⟨hx, hb, hml, hown, hts⟩ (c_X3_fewest l dC dI A cI cQ σ b (q := q) hq) (cwV 2 hts gX3_least_X3_fewest rfl rfl rfl (by decide +kernel) ⟨Nat.le_of_ble_eq_true rfl, Nat.le_of_ble_eq_true rfl⟩) ⟨bl_P, va_recv hK hP (ci := 3) (q0 := 0) rfl rfl, fun U hU hW => ⟨rfl, by rw [hU]; exact hP, hX.warm hW⟩⟩ rfl rfl hl.1 rfl (lv_room (Nat.le_of_ble_eq_true rfl)) dX3_least_28 ⟨Nat.zero_le _, Nat.zero_le _⟩) (fun r er => ?_)
      obtain rfl : r = o2i (fewS σ b q) := er
      refine vx_calli (A0 := fun q => s.heap.size ≤ q) (vx_runS (As := [.int (o2i (fewS σ b q))]) (rest := []) ⟨hx, hb, hml, hown, hts⟩ (x_X3_needSolved l dC dI cI cQ hlt s.heap.size (o2i (fewS σ b q)) (by rw [h]; rfl)) (va_cwS 1 hts gX3_least_X3_needSolved rfl rfl rfl (by decide +kernel) ⟨Nat.le_of_ble_eq_true rfl, Nat.le_of_ble_eq_true rfl⟩) ⟨bl_Ts, fun U hU hW => ⟨rfl, by rw [hU], hX.warm hW, by rw [hU]; exact HX.moved hW.alike hH⟩⟩ rfl rfl hl.1 rfl (lv_room (Nat.le_of_ble_eq_true rfl)) dX3_least_31 ⟨show 0 + 1 ≤ 1 by decide, show 0 + 6 ≤ 6 by decide⟩) va_S.rf (fun q _ h => h) (fun q h => h) (fun q _ h => h) (fun E ce q9 u t H1 locs1 ht hvm hp hB hz hk hS hc1 hc2 hc3 => ?_) (fun r u t H1 locs1 ht hvm hp => hp.elim)
      exact vx_out (fun x hx => (hnt x hx).elim) hlocks hc1 hc2 hc3 (fun t2 ht2 hv2 => ⟨(), trivial, hB, by rw [ht2]; exact hz, fun q hq hnq => by rw [ht2]; exact hk q hq hnq⟩) hS.2.2 (Nat.le_refl _) (Nat.le_refl _)
    · exact absurd h1.2 c8_1
set_option maxHeartbeats 4000000 in
set_option maxRecDepth 100000 in
/-- plan: it throws (IA) -/
theorem x_X3_plan_IA (l : Launch) (dC : Nat → ClassId) (dI : Nat → Nat → Nat) (A : Nat → Nat) (cI cQ : ClassId) (σ : HS) (hlt : l.stackTraces = false) (sz : Nat) (x : Int32) (h : ¬ okDepth x) : vx_Met l yX3_plan wsX3_plan RMx (va_Pc [.ref (A 0), .int x] (PTw dC dI A cI cQ sz σ)) (qiE sz) (xcE sz nIA) 1 6 (fun q => sz ≤ q) := by
  refine vx_ofW (cc := cX3_plan) (maxL := 3) (ret := (some .int)) (by decide) rfl ?_
  intro p e s m args below meth c s₁ B hml hnt hv
  obtain ⟨rfl, hsz, hP, hX, hH⟩ := hv
  subst hsz
  have hx := B.exec
  have hb := B.bytes
  have hr := B.returns
  have hts := atoms_spec (ws := wsX3_plan) B.pre
  have hown : s.vm.findClass RX3 = some m.cls := findClass_of_methodNamed B.named
  have hlocks := B.notSynchronized
  have hK := hX.1
  have hl := lv_entry ([.ref (A 0), .int x]) (n := 3) (Nat.le_of_ble_eq_true rfl)
  rw [lg_entry_eq]
  generalize (lg_sl ([.ref (A 0), .int x]) ++ List.replicate (3 - (lg_sl ([.ref (A 0), .int x])).length) Slot.unset).toArray = ls at hl ⊢
  have hl : lv_has ls 3 [(0, .ref (A 0)), (1, .int x)] := hl
  refine lv_iload_n hx hb dX3_plan_0 rfl (lv_at hl 1 rfl) ?_
  refine vx_callv (A0 := fun q => s.heap.size ≤ q) (vx_runS (As := [.int x]) (rest := []) ⟨hx, hb, hml, hown, hts⟩ (x_X3_needDepth l dC dI cI cQ hlt s.heap.size x h) (va_cwS 1 hts gX3_plan_X3_needDepth rfl rfl rfl (by decide +kernel) ⟨Nat.le_of_ble_eq_true rfl, Nat.le_of_ble_eq_true rfl⟩) ⟨bl_Ts, fun U hU hW => ⟨rfl, by rw [hU], hX.warm hW, by rw [hU]; exact HX.moved hW.alike hH⟩⟩ rfl rfl hl.1 rfl (lv_room (Nat.le_of_ble_eq_true rfl)) dX3_plan_1 ⟨show 0 + 1 ≤ 1 by decide, show 0 + 6 ≤ 6 by decide⟩) va_S.rf (fun q _ h => h) (fun q h => h) (fun q _ h => h) (fun E ce q9 u t H1 locs1 ht hvm hp hB hz hk hS hc1 hc2 hc3 => ?_) (fun u t H1 locs1 ht hvm hp => hp.elim)
  exact vx_out (fun x hx => (hnt x hx).elim) hlocks hc1 hc2 hc3 (fun t2 ht2 hv2 => ⟨(), trivial, hB, by rw [ht2]; exact hz, fun q hq hnq => by rw [ht2]; exact hk q hq hnq⟩) hS.2.2 (Nat.le_refl _) (Nat.le_refl _)
set_option maxHeartbeats 4000000 in
set_option maxRecDepth 100000 in
/-- plan: it throws (IS) -/
theorem x_X3_plan_IS (l : Launch) (dC : Nat → ClassId) (dI : Nat → Nat → Nat) (A : Nat → Nat) (cI cQ : ClassId) (σ : HS) (hlt : l.stackTraces = false) (sz : Nat) {q : Nat} (hq : q ≤ 4) (h : stS σ = 0) : vx_Met l yX3_plan wsX3_plan RMx (va_Pc [.ref (A 0), .int (nI q)] (PTw dC dI A cI cQ sz σ)) (qiE sz) (xcE sz nIS) 1 6 (fun q => sz ≤ q) := by
  refine vx_ofW (cc := cX3_plan) (maxL := 3) (ret := (some .int)) (by decide) rfl ?_
  intro p e s m args below meth c s₁ B hml hnt hv
  obtain ⟨rfl, hsz, hP, hX, hH⟩ := hv
  subst hsz
  have hx := B.exec
  have hb := B.bytes
  have hr := B.returns
  have hts := atoms_spec (ws := wsX3_plan) B.pre
  have hown : s.vm.findClass RX3 = some m.cls := findClass_of_methodNamed B.named
  have hlocks := B.notSynchronized
  have hK := hX.1
  have hinX3 : ∀ w ∈ wsX30, w ∈ wsX3_plan := fun _ h => List.mem_cons_of_mem _ (List.mem_append_left _ (List.mem_append_left _ (List.mem_append_left _ (List.mem_append_left _ (List.mem_append_left _ (List.mem_append_right _ h))))))
  have hl := lv_entry ([.ref (A 0), .int (nI q)]) (n := 3) (Nat.le_of_ble_eq_true rfl)
  rw [lg_entry_eq]
  generalize (lg_sl ([.ref (A 0), .int (nI q)]) ++ List.replicate (3 - (lg_sl ([.ref (A 0), .int (nI q)])).length) Slot.unset).toArray = ls at hl ⊢
  have hl : lv_has ls 3 [(0, .ref (A 0)), (1, .int (nI q))] := hl
  refine lv_iload_n hx hb dX3_plan_0 rfl (lv_at hl 1 rfl) ?_
  refine va_csv (W.runS (As := [.int (nI q)]) (rest := []) ⟨hx, hb, hml, hown, hts⟩ (k_X3_needDepth l (nI q) ⟨nI_pos (by omega), nI_le (b := 4) hq (by decide)⟩) (va_cwS 1 hts gX3_plan_X3_needDepth rfl rfl rfl (by decide +kernel) ⟨Nat.le_of_ble_eq_true rfl, Nat.le_of_ble_eq_true rfl⟩) ⟨bl_T, fun U hU hW => ⟨rfl, trivial⟩⟩ rfl rfl hl.1 rfl (lv_room (Nat.le_of_ble_eq_true rfl)) dX3_plan_1 ⟨Nat.zero_le _, Nat.zero_le _⟩) (fun _ => ?_)
  refine lv_aload_n hx hb dX3_plan_4 rfl (lv_at hl 0 rfl) ?_
  refine va_get (D := (dC, dI)) (ci := 3) (v := .int (stS σ)) (C := RX3) (T := TX3) (N := 9) hx hb hts hinX3 hown hK hP 0 rfl rfl 5 (by decide) (hts _ (List.mem_of_getElem? (i := 3) rfl)) (fun _ h9 => h9) rfl dX3_plan_5 ?_
  refine lv_if_ne (tgt := 21) hx hb dX3_plan_8 (by decide) (fun c8_0 => ?_) (fun c8_0 => ?_)
  · exact absurd h c8_0
  · skip
    obtain ⟨sa, hsa⟩ := hX.2.2 (130, "the start belief is empty") (List.mem_of_getElem? (i := 12) rfl)
    exact vx_throwS (A := fun q => s.heap.size ≤ q) (cls := nIS) (text := "the start belief is empty") (names := upE) hx hb hlt hown (by decide +kernel) (by decide +kernel) (hts _ (List.mem_of_getElem? (i := 1) rfl)) (hts _ (List.mem_of_getElem? (i := 2) rfl)) hsa (vx_hat (fun w h => hts w (List.mem_cons_of_mem _ (List.mem_append_left _ (List.mem_append_left _ (List.mem_append_right _ h))))) xbIS (hX.xb _)) goIS hH.1 hH.2.1 va_S.rf (hl.1.trans hml.symm) dX3_plan_11 dX3_plan_14 dX3_plan_15 dX3_plan_17 dX3_plan_20 (fun x hx => (hnt x hx).elim) (show 2 + 3 < 30 by omega) (show _ + (13 * (2 + 1) + 43) ≤ 700 by first | decide | (simp only [List.map_cons, List.map_nil, List.sum_cons, List.sum_nil, Value.category]; omega)) (show 0 + 1 ≤ 1 by decide) (show 0 + 6 ≤ 6 by decide) hlocks (fun t _ hz hk => ⟨(), trivial, rfl, hz, fun q hq _ => hk q hq⟩) (fun z h => nomatch h) (show 0 + 1 ≤ 1 by decide) (show 0 + 6 ≤ 6 by decide)
set_option maxHeartbeats 4000000 in
set_option maxRecDepth 100000 in
/-- plan: it throws (NS) -/
theorem x_X3_plan_NS (l : Launch) (dC : Nat → ClassId) (dI : Nat → Nat → Nat) (A : Nat → Nat) (cI cQ : ClassId) (σ : HS) (hlt : l.stackTraces = false) (sz : Nat) {q : Nat} (hq : q ≤ 4) (h1 : ¬ stS σ = 0) (h : fewS σ (stS σ) q = none) : vx_Met l yX3_plan wsX3_plan RMx (va_Pc [.ref (A 0), .int (nI q)] (PTw dC dI A cI cQ sz σ)) (qiE sz) (xcE sz nNS) 1 6 (fun q => sz ≤ q) := by
  refine vx_ofW (cc := cX3_plan) (maxL := 3) (ret := (some .int)) (by decide) rfl ?_
  intro p e s m args below meth c s₁ B hml hnt hv
  obtain ⟨rfl, hsz, hP, hX, hH⟩ := hv
  subst hsz
  have hx := B.exec
  have hb := B.bytes
  have hr := B.returns
  have hts := atoms_spec (ws := wsX3_plan) B.pre
  have hown : s.vm.findClass RX3 = some m.cls := findClass_of_methodNamed B.named
  have hlocks := B.notSynchronized
  have hK := hX.1
  have hinX3 : ∀ w ∈ wsX30, w ∈ wsX3_plan := fun _ h => List.mem_cons_of_mem _ (List.mem_append_left _ (List.mem_append_left _ (List.mem_append_left _ (List.mem_append_left _ (List.mem_append_left _ (List.mem_append_right _ h))))))
  have hl := lv_entry ([.ref (A 0), .int (nI q)]) (n := 3) (Nat.le_of_ble_eq_true rfl)
  rw [lg_entry_eq]
  generalize (lg_sl ([.ref (A 0), .int (nI q)]) ++ List.replicate (3 - (lg_sl ([.ref (A 0), .int (nI q)])).length) Slot.unset).toArray = ls at hl ⊢
  have hl : lv_has ls 3 [(0, .ref (A 0)), (1, .int (nI q))] := hl
  refine lv_iload_n hx hb dX3_plan_0 rfl (lv_at hl 1 rfl) ?_
  refine va_csv (W.runS (As := [.int (nI q)]) (rest := []) ⟨hx, hb, hml, hown, hts⟩ (k_X3_needDepth l (nI q) ⟨nI_pos (by omega), nI_le (b := 4) hq (by decide)⟩) (va_cwS 1 hts gX3_plan_X3_needDepth rfl rfl rfl (by decide +kernel) ⟨Nat.le_of_ble_eq_true rfl, Nat.le_of_ble_eq_true rfl⟩) ⟨bl_T, fun U hU hW => ⟨rfl, trivial⟩⟩ rfl rfl hl.1 rfl (lv_room (Nat.le_of_ble_eq_true rfl)) dX3_plan_1 ⟨Nat.zero_le _, Nat.zero_le _⟩) (fun _ => ?_)
  refine lv_aload_n hx hb dX3_plan_4 rfl (lv_at hl 0 rfl) ?_
  refine va_get (D := (dC, dI)) (ci := 3) (v := .int (stS σ)) (C := RX3) (T := TX3) (N := 9) hx hb hts hinX3 hown hK hP 0 rfl rfl 5 (by decide) (hts _ (List.mem_of_getElem? (i := 3) rfl)) (fun _ h9 => h9) rfl dX3_plan_5 ?_
  refine lv_if_ne (tgt := 21) hx hb dX3_plan_8 (by decide) (fun c8_0 => ?_) (fun c8_0 => ?_)
  · skip
    refine lv_aload_n hx hb dX3_plan_21 rfl (lv_at hl 0 rfl) ?_
    refine lv_aload_n hx hb dX3_plan_22 rfl (lv_at hl 0 rfl) ?_
    refine va_get (D := (dC, dI)) (ci := 3) (v := .int (stS σ)) (C := RX3) (T := TX3) (N := 9) hx hb hts hinX3 hown hK hP 0 rfl rfl 5 (by decide) (hts _ (List.mem_of_getElem? (i := 3) rfl)) (fun _ h9 => h9) rfl dX3_plan_23 ?_
    refine lv_iload_n hx hb dX3_plan_26 rfl (lv_at hl 1 rfl) ?_
    refine vp_callSi (W.runV (As := [.int (stS σ), .int (nI q)]) (rest := []) ⟨hx, hb, hml, hown, hts⟩ (c_X3_fewest l dC dI A cI cQ σ (stS σ) (q := q) hq) (cwV 2 hts gX3_plan_X3_fewest rfl rfl rfl (by decide +kernel) ⟨Nat.le_of_ble_eq_true rfl, Nat.le_of_ble_eq_true rfl⟩) ⟨bl_P, va_recv hK hP (ci := 3) (q0 := 0) rfl rfl, fun U hU hW => ⟨rfl, by rw [hU]; exact hP, hX.warm hW⟩⟩ rfl rfl hl.1 rfl (lv_room (Nat.le_of_ble_eq_true rfl)) dX3_plan_27 ⟨Nat.zero_le _, Nat.zero_le _⟩) (fun r er => ?_)
    obtain rfl : r = o2i (fewS σ (stS σ) q) := er
    refine vx_calli (A0 := fun q => s.heap.size ≤ q) (vx_runS (As := [.int (o2i (fewS σ (stS σ) q))]) (rest := []) ⟨hx, hb, hml, hown, hts⟩ (x_X3_needSolved l dC dI cI cQ hlt s.heap.size (o2i (fewS σ (stS σ) q)) (by rw [h]; rfl)) (va_cwS 1 hts gX3_plan_X3_needSolved rfl rfl rfl (by decide +kernel) ⟨Nat.le_of_ble_eq_true rfl, Nat.le_of_ble_eq_true rfl⟩) ⟨bl_Ts, fun U hU hW => ⟨rfl, by rw [hU], hX.warm hW, by rw [hU]; exact HX.moved hW.alike hH⟩⟩ rfl rfl hl.1 rfl (lv_room (Nat.le_of_ble_eq_true rfl)) dX3_plan_30 ⟨show 0 + 1 ≤ 1 by decide, show 0 + 6 ≤ 6 by decide⟩) va_S.rf (fun q _ h => h) (fun q h => h) (fun q _ h => h) (fun E ce q9 u t H1 locs1 ht hvm hp hB hz hk hS hc1 hc2 hc3 => ?_) (fun r u t H1 locs1 ht hvm hp => hp.elim)
    exact vx_out (fun x hx => (hnt x hx).elim) hlocks hc1 hc2 hc3 (fun t2 ht2 hv2 => ⟨(), trivial, hB, by rw [ht2]; exact hz, fun q hq hnq => by rw [ht2]; exact hk q hq hnq⟩) hS.2.2 (Nat.le_refl _) (Nat.le_refl _)
  · exact absurd c8_0 h1
set_option maxHeartbeats 4000000 in
set_option maxRecDepth 100000 in
/-- node: it throws (IO1) -/
theorem x_X3_node_IO1 (l : Launch) (dC : Nat → ClassId) (dI : Nat → Nat → Nat) (A : Nat → Nat) (cI cQ : ClassId) (σ : HS) (hlt : l.stackTraces = false) (sz : Nat) (i x : Int32) (h : ¬ (¬ i < 0 ∧ i < ctS σ)) : vx_Met l yX3_node wsX3_node RMx (va_Pc [.ref (A 0), .int i, .int x] (PTw dC dI A cI cQ sz σ)) (qiE sz) (xcE sz nIO) 1 6 (fun q => sz ≤ q) := by
  refine vx_ofW (cc := cX3_node) (maxL := 3) (ret := (some .int)) (by decide) rfl ?_
  intro p e s m args below meth c s₁ B hml hnt hv
  obtain ⟨rfl, hsz, hP, hX, hH⟩ := hv
  subst hsz
  have hx := B.exec
  have hb := B.bytes
  have hr := B.returns
  have hts := atoms_spec (ws := wsX3_node) B.pre
  have hown : s.vm.findClass RX3 = some m.cls := findClass_of_methodNamed B.named
  have hlocks := B.notSynchronized
  have hK := hX.1
  have hinX3 : ∀ w ∈ wsX30, w ∈ wsX3_node := fun _ h => List.mem_cons_of_mem _ (List.mem_append_left _ (List.mem_append_left _ (List.mem_append_right _ h)))
  have hl := lv_entry ([.ref (A 0), .int i, .int x]) (n := 3) (Nat.le_of_ble_eq_true rfl)
  rw [lg_entry_eq]
  generalize (lg_sl ([.ref (A 0), .int i, .int x]) ++ List.replicate (3 - (lg_sl ([.ref (A 0), .int i, .int x])).length) Slot.unset).toArray = ls at hl ⊢
  have hl : lv_has ls 3 [(0, .ref (A 0)), (1, .int i), (2, .int x)] := hl
  refine lv_aload_n hx hb dX3_node_0 rfl (lv_at hl 0 rfl) ?_
  refine lv_iload_n hx hb dX3_node_1 rfl (lv_at hl 1 rfl) ?_
  refine vx_callv (A0 := fun q => s.heap.size ≤ q) (vx_runV (As := [.int i]) (rest := []) ⟨hx, hb, hml, hown, hts⟩ (x_X3_needNode l dC dI A cI cQ σ hlt s.heap.size i h) (cwV 1 hts gX3_node_X3_needNode rfl rfl rfl (by decide +kernel) ⟨Nat.le_of_ble_eq_true rfl, Nat.le_of_ble_eq_true rfl⟩) ⟨bl_Tw, va_recv hK hP (ci := 3) (q0 := 0) rfl rfl, fun U hU hW => ⟨rfl, by rw [hU], by rw [hU]; exact hP, hX.warm hW, by rw [hU]; exact HX.moved hW.alike hH⟩⟩ rfl rfl hl.1 rfl (lv_room (Nat.le_of_ble_eq_true rfl)) dX3_node_2 ⟨show 0 + 1 ≤ 1 by decide, show 0 + 6 ≤ 6 by decide⟩) va_S.rf (fun q _ h => h) (fun q h => h) (fun q _ h => h) (fun E ce q9 u t H1 locs1 ht hvm hp hB hz hk hS hc1 hc2 hc3 => ?_) (fun u t H1 locs1 ht hvm hp => hp.elim)
  exact vx_out (fun x hx => (hnt x hx).elim) hlocks hc1 hc2 hc3 (fun t2 ht2 hv2 => ⟨(), trivial, hB, by rw [ht2]; exact hz, fun q hq hnq => by rw [ht2]; exact hk q hq hnq⟩) hS.2.2 (Nat.le_refl _) (Nat.le_refl _)
set_option maxHeartbeats 4000000 in
set_option maxRecDepth 100000 in
/-- node: it throws (IO2) -/
theorem x_X3_node_IO2 (l : Launch) (dC : Nat → ClassId) (dI : Nat → Nat → Nat) (A : Nat → Nat) (cI cQ : ClassId) (σ : HS) (hlt : l.stackTraces = false) (sz : Nat) (i x : Int32) (h1 : ¬ i < 0 ∧ i < ctS σ) (h : x < 0 ∨ ¬ x < 3) : vx_Met l yX3_node wsX3_node RMx (va_Pc [.ref (A 0), .int i, .int x] (PTw dC dI A cI cQ sz σ)) (qiE sz) (xcE sz nIO) 1 6 (fun q => sz ≤ q) := by
  refine vx_ofW (cc := cX3_node) (maxL := 3) (ret := (some .int)) (by decide) rfl ?_
  intro p e s m args below meth c s₁ B hml hnt hv
  obtain ⟨rfl, hsz, hP, hX, hH⟩ := hv
  subst hsz
  have hx := B.exec
  have hb := B.bytes
  have hr := B.returns
  have hts := atoms_spec (ws := wsX3_node) B.pre
  have hown : s.vm.findClass RX3 = some m.cls := findClass_of_methodNamed B.named
  have hlocks := B.notSynchronized
  have hK := hX.1
  have hinX3 : ∀ w ∈ wsX30, w ∈ wsX3_node := fun _ h => List.mem_cons_of_mem _ (List.mem_append_left _ (List.mem_append_left _ (List.mem_append_right _ h)))
  have hl := lv_entry ([.ref (A 0), .int i, .int x]) (n := 3) (Nat.le_of_ble_eq_true rfl)
  rw [lg_entry_eq]
  generalize (lg_sl ([.ref (A 0), .int i, .int x]) ++ List.replicate (3 - (lg_sl ([.ref (A 0), .int i, .int x])).length) Slot.unset).toArray = ls at hl ⊢
  have hl : lv_has ls 3 [(0, .ref (A 0)), (1, .int i), (2, .int x)] := hl
  refine lv_aload_n hx hb dX3_node_0 rfl (lv_at hl 0 rfl) ?_
  refine lv_iload_n hx hb dX3_node_1 rfl (lv_at hl 1 rfl) ?_
  refine va_csv (W.runV (As := [.int i]) (rest := []) ⟨hx, hb, hml, hown, hts⟩ (k_X3_needNode l dC dI A cI cQ σ i h1) (cwV 1 hts gX3_node_X3_needNode rfl rfl rfl (by decide +kernel) ⟨Nat.le_of_ble_eq_true rfl, Nat.le_of_ble_eq_true rfl⟩) ⟨bl_P, va_recv hK hP (ci := 3) (q0 := 0) rfl rfl, fun U hU hW => ⟨rfl, by rw [hU]; exact hP, hX.warm hW⟩⟩ rfl rfl hl.1 rfl (lv_room (Nat.le_of_ble_eq_true rfl)) dX3_node_2 ⟨Nat.zero_le _, Nat.zero_le _⟩) (fun _ => ?_)
  refine lv_iload_n hx hb dX3_node_5 rfl (lv_at hl 2 rfl) ?_
  refine lv_if_lt (tgt := 14) hx hb dX3_node_6 (by decide) (fun c6_0 => ?_) (fun c6_0 => ?_)
  · skip
    obtain ⟨sa, hsa⟩ := hX.2.2 (146, "a node has no such part") (List.mem_of_getElem? (i := 14) rfl)
    exact vx_throwS (A := fun q => s.heap.size ≤ q) (cls := nIO) (text := "a node has no such part") (names := upE) hx hb hlt hown (by decide +kernel) (by decide +kernel) (hts _ (List.mem_of_getElem? (i := 1) rfl)) (hts _ (List.mem_of_getElem? (i := 2) rfl)) hsa (vx_hat (fun w h => hts w (List.mem_cons_of_mem _ (List.mem_append_right _ h))) xbIO (hX.xb _)) goIO hH.1 hH.2.1 va_S.rf (hl.1.trans hml.symm) dX3_node_14 dX3_node_17 dX3_node_18 dX3_node_20 dX3_node_23 (fun x hx => (hnt x hx).elim) (show 2 + 3 < 30 by omega) (show _ + (13 * (2 + 1) + 43) ≤ 700 by first | decide | (simp only [List.map_cons, List.map_nil, List.sum_cons, List.sum_nil, Value.category]; omega)) (show 0 + 1 ≤ 1 by decide) (show 0 + 6 ≤ 6 by decide) hlocks (fun t _ hz hk => ⟨(), trivial, rfl, hz, fun q hq _ => hk q hq⟩) (fun z h => nomatch h) (show 0 + 1 ≤ 1 by decide) (show 0 + 6 ≤ 6 by decide)
  · skip
    refine lv_iload_n hx hb dX3_node_9 rfl (lv_at hl 2 rfl) ?_
    refine lv_iconst (v := 3) hx hb dX3_node_10 (by decide) ?_
    refine lv_icmp_lt (tgt := 24) hx hb dX3_node_11 (by decide) (fun c11_1 => ?_) (fun c11_1 => ?_)
    · exact absurd h (by rintro (z | z); exact c6_0 z; exact z c11_1)
    · skip
      obtain ⟨sa, hsa⟩ := hX.2.2 (146, "a node has no such part") (List.mem_of_getElem? (i := 14) rfl)
      exact vx_throwS (A := fun q => s.heap.size ≤ q) (cls := nIO) (text := "a node has no such part") (names := upE) hx hb hlt hown (by decide +kernel) (by decide +kernel) (hts _ (List.mem_of_getElem? (i := 1) rfl)) (hts _ (List.mem_of_getElem? (i := 2) rfl)) hsa (vx_hat (fun w h => hts w (List.mem_cons_of_mem _ (List.mem_append_right _ h))) xbIO (hX.xb _)) goIO hH.1 hH.2.1 va_S.rf (hl.1.trans hml.symm) dX3_node_14 dX3_node_17 dX3_node_18 dX3_node_20 dX3_node_23 (fun x hx => (hnt x hx).elim) (show 2 + 3 < 30 by omega) (show _ + (13 * (2 + 1) + 43) ≤ 700 by first | decide | (simp only [List.map_cons, List.map_nil, List.sum_cons, List.sum_nil, Value.category]; omega)) (show 0 + 1 ≤ 1 by decide) (show 0 + 6 ≤ 6 by decide) hlocks (fun t _ hz hk => ⟨(), trivial, rfl, hz, fun q hq _ => hk q hq⟩) (fun z h => nomatch h) (show 0 + 1 ≤ 1 by decide) (show 0 + 6 ≤ 6 by decide)
set_option maxHeartbeats 4000000 in
set_option maxRecDepth 100000 in
/-- edit: it throws (IO1) -/
theorem x_X3_edit_IO1 (l : Launch) (dC : Nat → ClassId) (dI : Nat → Nat → Nat) (A : Nat → Nat) (cI cQ : ClassId) (σ : HS) (hlt : l.stackTraces = false) (sz : Nat) (i x : Int32) (h : ¬ (¬ i < 0 ∧ i < ctS σ)) : vx_Met l yX3_edit wsX3_edit RMx (va_Pc [.ref (A 0), .int i, .int x] (PTw dC dI A cI cQ sz σ)) (qiE sz) (xcE sz nIO) 1 6 (fun q => sz ≤ q) := by
  refine vx_ofW (cc := cX3_edit) (maxL := 4) (ret := (some .int)) (by decide) rfl ?_
  intro p e s m args below meth c s₁ B hml hnt hv
  obtain ⟨rfl, hsz, hP, hX, hH⟩ := hv
  subst hsz
  have hx := B.exec
  have hb := B.bytes
  have hr := B.returns
  have hts := atoms_spec (ws := wsX3_edit) B.pre
  have hown : s.vm.findClass RX3 = some m.cls := findClass_of_methodNamed B.named
  have hlocks := B.notSynchronized
  have hK := hX.1
  have hinX3 : ∀ w ∈ wsX30, w ∈ wsX3_edit := fun _ h => List.mem_cons_of_mem _ (List.mem_append_left _ (List.mem_append_left _ (List.mem_append_left _ (List.mem_append_left _ (List.mem_append_left _ (List.mem_append_right _ h))))))
  have hl := lv_entry ([.ref (A 0), .int i, .int x]) (n := 4) (Nat.le_of_ble_eq_true rfl)
  rw [lg_entry_eq]
  generalize (lg_sl ([.ref (A 0), .int i, .int x]) ++ List.replicate (4 - (lg_sl ([.ref (A 0), .int i, .int x])).length) Slot.unset).toArray = ls at hl ⊢
  have hl : lv_has ls 4 [(0, .ref (A 0)), (1, .int i), (2, .int x)] := hl
  refine lv_aload_n hx hb dX3_edit_0 rfl (lv_at hl 0 rfl) ?_
  refine lv_iload_n hx hb dX3_edit_1 rfl (lv_at hl 1 rfl) ?_
  refine vx_callv (A0 := fun q => s.heap.size ≤ q) (vx_runV (As := [.int i]) (rest := []) ⟨hx, hb, hml, hown, hts⟩ (x_X3_needNode l dC dI A cI cQ σ hlt s.heap.size i h) (cwV 1 hts gX3_edit_X3_needNode rfl rfl rfl (by decide +kernel) ⟨Nat.le_of_ble_eq_true rfl, Nat.le_of_ble_eq_true rfl⟩) ⟨bl_Tw, va_recv hK hP (ci := 3) (q0 := 0) rfl rfl, fun U hU hW => ⟨rfl, by rw [hU], by rw [hU]; exact hP, hX.warm hW, by rw [hU]; exact HX.moved hW.alike hH⟩⟩ rfl rfl hl.1 rfl (lv_room (Nat.le_of_ble_eq_true rfl)) dX3_edit_2 ⟨show 0 + 1 ≤ 1 by decide, show 0 + 6 ≤ 6 by decide⟩) va_S.rf (fun q _ h => h) (fun q h => h) (fun q _ h => h) (fun E ce q9 u t H1 locs1 ht hvm hp hB hz hk hS hc1 hc2 hc3 => ?_) (fun u t H1 locs1 ht hvm hp => hp.elim)
  exact vx_out (fun x hx => (hnt x hx).elim) hlocks hc1 hc2 hc3 (fun t2 ht2 hv2 => ⟨(), trivial, hB, by rw [ht2]; exact hz, fun q hq hnq => by rw [ht2]; exact hk q hq hnq⟩) hS.2.2 (Nat.le_refl _) (Nat.le_refl _)
set_option maxHeartbeats 4000000 in
set_option maxRecDepth 100000 in
/-- edit: it throws (IO2) -/
theorem x_X3_edit_IO2 (l : Launch) (dC : Nat → ClassId) (dI : Nat → Nat → Nat) (A : Nat → Nat) (cI cQ : ClassId) (σ : HS) (hlt : l.stackTraces = false) (sz : Nat) (i x : Int32) (h1 : ¬ i < 0 ∧ i < ctS σ) (h : x < 0 ∨ ¬ x < 8) : vx_Met l yX3_edit wsX3_edit RMx (va_Pc [.ref (A 0), .int i, .int x] (PTw dC dI A cI cQ sz σ)) (qiE sz) (xcE sz nIO) 1 6 (fun q => sz ≤ q) := by
  refine vx_ofW (cc := cX3_edit) (maxL := 4) (ret := (some .int)) (by decide) rfl ?_
  intro p e s m args below meth c s₁ B hml hnt hv
  obtain ⟨rfl, hsz, hP, hX, hH⟩ := hv
  subst hsz
  have hx := B.exec
  have hb := B.bytes
  have hr := B.returns
  have hts := atoms_spec (ws := wsX3_edit) B.pre
  have hown : s.vm.findClass RX3 = some m.cls := findClass_of_methodNamed B.named
  have hlocks := B.notSynchronized
  have hK := hX.1
  have hinX3 : ∀ w ∈ wsX30, w ∈ wsX3_edit := fun _ h => List.mem_cons_of_mem _ (List.mem_append_left _ (List.mem_append_left _ (List.mem_append_left _ (List.mem_append_left _ (List.mem_append_left _ (List.mem_append_right _ h))))))
  have hl := lv_entry ([.ref (A 0), .int i, .int x]) (n := 4) (Nat.le_of_ble_eq_true rfl)
  rw [lg_entry_eq]
  generalize (lg_sl ([.ref (A 0), .int i, .int x]) ++ List.replicate (4 - (lg_sl ([.ref (A 0), .int i, .int x])).length) Slot.unset).toArray = ls at hl ⊢
  have hl : lv_has ls 4 [(0, .ref (A 0)), (1, .int i), (2, .int x)] := hl
  refine lv_aload_n hx hb dX3_edit_0 rfl (lv_at hl 0 rfl) ?_
  refine lv_iload_n hx hb dX3_edit_1 rfl (lv_at hl 1 rfl) ?_
  refine va_csv (W.runV (As := [.int i]) (rest := []) ⟨hx, hb, hml, hown, hts⟩ (k_X3_needNode l dC dI A cI cQ σ i h1) (cwV 1 hts gX3_edit_X3_needNode rfl rfl rfl (by decide +kernel) ⟨Nat.le_of_ble_eq_true rfl, Nat.le_of_ble_eq_true rfl⟩) ⟨bl_P, va_recv hK hP (ci := 3) (q0 := 0) rfl rfl, fun U hU hW => ⟨rfl, by rw [hU]; exact hP, hX.warm hW⟩⟩ rfl rfl hl.1 rfl (lv_room (Nat.le_of_ble_eq_true rfl)) dX3_edit_2 ⟨Nat.zero_le _, Nat.zero_le _⟩) (fun _ => ?_)
  refine lv_iload_n hx hb dX3_edit_5 rfl (lv_at hl 2 rfl) ?_
  refine vx_callv (A0 := fun q => s.heap.size ≤ q) (vx_runS (As := [.int x]) (rest := []) ⟨hx, hb, hml, hown, hts⟩ (x_X3_needNumber l dC dI cI cQ hlt s.heap.size x h) (va_cwS 1 hts gX3_edit_X3_needNumber rfl rfl rfl (by decide +kernel) ⟨Nat.le_of_ble_eq_true rfl, Nat.le_of_ble_eq_true rfl⟩) ⟨bl_Ts, fun U hU hW => ⟨rfl, by rw [hU], hX.warm hW, by rw [hU]; exact HX.moved hW.alike hH⟩⟩ rfl rfl hl.1 rfl (lv_room (Nat.le_of_ble_eq_true rfl)) dX3_edit_6 ⟨show 0 + 1 ≤ 1 by decide, show 0 + 6 ≤ 6 by decide⟩) va_S.rf (fun q _ h => h) (fun q h => h) (fun q _ h => h) (fun E ce q9 u t H1 locs1 ht hvm hp hB hz hk hS hc1 hc2 hc3 => ?_) (fun u t H1 locs1 ht hvm hp => hp.elim)
  exact vx_out (fun x hx => (hnt x hx).elim) hlocks hc1 hc2 hc3 (fun t2 ht2 hv2 => ⟨(), trivial, hB, by rw [ht2]; exact hz, fun q hq hnq => by rw [ht2]; exact hk q hq hnq⟩) hS.2.2 (Nat.le_refl _) (Nat.le_refl _)
set_option maxHeartbeats 4000000 in
set_option maxRecDepth 100000 in
/-- edit: it throws (NS) -/
theorem x_X3_edit_NS (l : Launch) (dC : Nat → ClassId) (dI : Nat → Nat → Nat) (A : Nat → Nat) (cI cQ : ClassId) (σ : HS) (hlt : l.stackTraces = false) (sz : Nat) (i : Int32) {a : Nat} (ha : a < 8) (h1 : ¬ i < 0 ∧ i < ctS σ) (h : acS σ a 0 = 0) : vx_Met l yX3_edit wsX3_edit RMx (va_Pc [.ref (A 0), .int i, .int (nI a)] (PTw dC dI A cI cQ sz σ)) (qiE sz) (xcE sz nNS) 1 6 (fun q => sz ≤ q) := by
  refine vx_ofW (cc := cX3_edit) (maxL := 4) (ret := (some .int)) (by decide) rfl ?_
  intro p e s m args below meth c s₁ B hml hnt hv
  obtain ⟨rfl, hsz, hP, hX, hH⟩ := hv
  subst hsz
  have hx := B.exec
  have hb := B.bytes
  have hr := B.returns
  have hts := atoms_spec (ws := wsX3_edit) B.pre
  have hown : s.vm.findClass RX3 = some m.cls := findClass_of_methodNamed B.named
  have hlocks := B.notSynchronized
  have hK := hX.1
  have hinX3 : ∀ w ∈ wsX30, w ∈ wsX3_edit := fun _ h => List.mem_cons_of_mem _ (List.mem_append_left _ (List.mem_append_left _ (List.mem_append_left _ (List.mem_append_left _ (List.mem_append_left _ (List.mem_append_right _ h))))))
  have hl := lv_entry ([.ref (A 0), .int i, .int (nI a)]) (n := 4) (Nat.le_of_ble_eq_true rfl)
  rw [lg_entry_eq]
  generalize (lg_sl ([.ref (A 0), .int i, .int (nI a)]) ++ List.replicate (4 - (lg_sl ([.ref (A 0), .int i, .int (nI a)])).length) Slot.unset).toArray = ls at hl ⊢
  have hl : lv_has ls 4 [(0, .ref (A 0)), (1, .int i), (2, .int (nI a))] := hl
  refine lv_aload_n hx hb dX3_edit_0 rfl (lv_at hl 0 rfl) ?_
  refine lv_iload_n hx hb dX3_edit_1 rfl (lv_at hl 1 rfl) ?_
  refine va_csv (W.runV (As := [.int i]) (rest := []) ⟨hx, hb, hml, hown, hts⟩ (k_X3_needNode l dC dI A cI cQ σ i h1) (cwV 1 hts gX3_edit_X3_needNode rfl rfl rfl (by decide +kernel) ⟨Nat.le_of_ble_eq_true rfl, Nat.le_of_ble_eq_true rfl⟩) ⟨bl_P, va_recv hK hP (ci := 3) (q0 := 0) rfl rfl, fun U hU hW => ⟨rfl, by rw [hU]; exact hP, hX.warm hW⟩⟩ rfl rfl hl.1 rfl (lv_room (Nat.le_of_ble_eq_true rfl)) dX3_edit_2 ⟨Nat.zero_le _, Nat.zero_le _⟩) (fun _ => ?_)
  refine lv_iload_n hx hb dX3_edit_5 rfl (lv_at hl 2 rfl) ?_
  refine va_csv (W.runS (As := [.int (nI a)]) (rest := []) ⟨hx, hb, hml, hown, hts⟩ (k_X3_needNumber l (nI a) ⟨nI_pos (by omega), nI_lt (b := 8) ha (by decide)⟩) (va_cwS 1 hts gX3_edit_X3_needNumber rfl rfl rfl (by decide +kernel) ⟨Nat.le_of_ble_eq_true rfl, Nat.le_of_ble_eq_true rfl⟩) ⟨bl_T, fun U hU hW => ⟨rfl, trivial⟩⟩ rfl rfl hl.1 rfl (lv_room (Nat.le_of_ble_eq_true rfl)) dX3_edit_6 ⟨Nat.zero_le _, Nat.zero_le _⟩) (fun _ => ?_)
  refine lv_aload_n hx hb dX3_edit_9 rfl (lv_at hl 0 rfl) ?_
  refine lv_iload_n hx hb dX3_edit_10 rfl (lv_at hl 2 rfl) ?_
  refine vx_callv (A0 := fun q => s.heap.size ≤ q) (vx_runV (As := [.int (nI a)]) (rest := []) ⟨hx, hb, hml, hown, hts⟩ (x_X3_needThere l dC dI A cI cQ σ hlt s.heap.size (a := a) ha h) (cwV 1 hts gX3_edit_X3_needThere rfl rfl rfl (by decide +kernel) ⟨Nat.le_of_ble_eq_true rfl, Nat.le_of_ble_eq_true rfl⟩) ⟨bl_Tw, va_recv hK hP (ci := 3) (q0 := 0) rfl rfl, fun U hU hW => ⟨rfl, by rw [hU], by rw [hU]; exact hP, hX.warm hW, by rw [hU]; exact HX.moved hW.alike hH⟩⟩ rfl rfl hl.1 rfl (lv_room (Nat.le_of_ble_eq_true rfl)) dX3_edit_11 ⟨show 0 + 1 ≤ 1 by decide, show 0 + 6 ≤ 6 by decide⟩) va_S.rf (fun q _ h => h) (fun q h => h) (fun q _ h => h) (fun E ce q9 u t H1 locs1 ht hvm hp hB hz hk hS hc1 hc2 hc3 => ?_) (fun u t H1 locs1 ht hvm hp => hp.elim)
  exact vx_out (fun x hx => (hnt x hx).elim) hlocks hc1 hc2 hc3 (fun t2 ht2 hv2 => ⟨(), trivial, hB, by rw [ht2]; exact hz, fun q hq hnq => by rw [ht2]; exact hk q hq hnq⟩) hS.2.2 (Nat.le_refl _) (Nat.le_refl _)
set_option maxHeartbeats 4000000 in
set_option maxRecDepth 100000 in
/-- edit: it throws (UO) -/
theorem x_X3_edit_UO (l : Launch) (dC : Nat → ClassId) (dI : Nat → Nat → Nat) (A : Nat → Nat) (cI cQ : ClassId) (σ : HS) (hlt : l.stackTraces = false) (sz : Nat) {i : Nat} (hi31 : i < 31) {a : Nat} (ha : a < 8) (h1 : ¬ nI i < 0 ∧ nI i < ctS σ) (h2 : ¬ acS σ a 0 = 0) (h : tcS σ (3 * i + 0) = -1) : vx_Met l yX3_edit wsX3_edit RMx (va_Pc [.ref (A 0), .int (nI i), .int (nI a)] (PTw dC dI A cI cQ sz σ)) (qiE sz) (xcE sz nUO) 1 6 (fun q => sz ≤ q) := by
  refine vx_ofW (cc := cX3_edit) (maxL := 4) (ret := (some .int)) (by decide) rfl ?_
  intro p e s m args below meth c s₁ B hml hnt hv
  obtain ⟨rfl, hsz, hP, hX, hH⟩ := hv
  subst hsz
  have hx := B.exec
  have hb := B.bytes
  have hr := B.returns
  have hts := atoms_spec (ws := wsX3_edit) B.pre
  have hown : s.vm.findClass RX3 = some m.cls := findClass_of_methodNamed B.named
  have hlocks := B.notSynchronized
  have hK := hX.1
  have hinX3 : ∀ w ∈ wsX30, w ∈ wsX3_edit := fun _ h => List.mem_cons_of_mem _ (List.mem_append_left _ (List.mem_append_left _ (List.mem_append_left _ (List.mem_append_left _ (List.mem_append_left _ (List.mem_append_right _ h))))))
  have hl := lv_entry ([.ref (A 0), .int (nI i), .int (nI a)]) (n := 4) (Nat.le_of_ble_eq_true rfl)
  rw [lg_entry_eq]
  generalize (lg_sl ([.ref (A 0), .int (nI i), .int (nI a)]) ++ List.replicate (4 - (lg_sl ([.ref (A 0), .int (nI i), .int (nI a)])).length) Slot.unset).toArray = ls at hl ⊢
  have hl : lv_has ls 4 [(0, .ref (A 0)), (1, .int (nI i)), (2, .int (nI a))] := hl
  refine lv_aload_n hx hb dX3_edit_0 rfl (lv_at hl 0 rfl) ?_
  refine lv_iload_n hx hb dX3_edit_1 rfl (lv_at hl 1 rfl) ?_
  refine va_csv (W.runV (As := [.int (nI i)]) (rest := []) ⟨hx, hb, hml, hown, hts⟩ (k_X3_needNode l dC dI A cI cQ σ (nI i) h1) (cwV 1 hts gX3_edit_X3_needNode rfl rfl rfl (by decide +kernel) ⟨Nat.le_of_ble_eq_true rfl, Nat.le_of_ble_eq_true rfl⟩) ⟨bl_P, va_recv hK hP (ci := 3) (q0 := 0) rfl rfl, fun U hU hW => ⟨rfl, by rw [hU]; exact hP, hX.warm hW⟩⟩ rfl rfl hl.1 rfl (lv_room (Nat.le_of_ble_eq_true rfl)) dX3_edit_2 ⟨Nat.zero_le _, Nat.zero_le _⟩) (fun _ => ?_)
  refine lv_iload_n hx hb dX3_edit_5 rfl (lv_at hl 2 rfl) ?_
  refine va_csv (W.runS (As := [.int (nI a)]) (rest := []) ⟨hx, hb, hml, hown, hts⟩ (k_X3_needNumber l (nI a) ⟨nI_pos (by omega), nI_lt (b := 8) ha (by decide)⟩) (va_cwS 1 hts gX3_edit_X3_needNumber rfl rfl rfl (by decide +kernel) ⟨Nat.le_of_ble_eq_true rfl, Nat.le_of_ble_eq_true rfl⟩) ⟨bl_T, fun U hU hW => ⟨rfl, trivial⟩⟩ rfl rfl hl.1 rfl (lv_room (Nat.le_of_ble_eq_true rfl)) dX3_edit_6 ⟨Nat.zero_le _, Nat.zero_le _⟩) (fun _ => ?_)
  refine lv_aload_n hx hb dX3_edit_9 rfl (lv_at hl 0 rfl) ?_
  refine lv_iload_n hx hb dX3_edit_10 rfl (lv_at hl 2 rfl) ?_
  refine va_csv (W.runV (As := [.int (nI a)]) (rest := []) ⟨hx, hb, hml, hown, hts⟩ (k_X3_needThere l dC dI A cI cQ σ (a := a) ha h2) (cwV 1 hts gX3_edit_X3_needThere rfl rfl rfl (by decide +kernel) ⟨Nat.le_of_ble_eq_true rfl, Nat.le_of_ble_eq_true rfl⟩) ⟨bl_P, va_recv hK hP (ci := 3) (q0 := 0) rfl rfl, fun U hU hW => ⟨rfl, by rw [hU]; exact hP, hX.warm hW⟩⟩ rfl rfl hl.1 rfl (lv_room (Nat.le_of_ble_eq_true rfl)) dX3_edit_11 ⟨Nat.zero_le _, Nat.zero_le _⟩) (fun _ => ?_)
  refine lv_aload_n hx hb dX3_edit_14 rfl (lv_at hl 0 rfl) ?_
  refine va_get (D := (dC, dI)) (ci := 3) (v := .ref (A 2)) (C := RX3) (T := TX3) (N := 9) hx hb hts hinX3 hown hK hP 0 rfl rfl 1 (by decide) (hts _ (List.mem_of_getElem? (i := 3) rfl)) (fun _ h9 => h9) rfl dX3_edit_15 ?_
  refine lv_iload_n hx hb dX3_edit_18 rfl (lv_at hl 1 rfl) ?_
  refine lv_iconst (v := 0) hx hb dX3_edit_19 (by decide) ?_
  refine vp_callSi (W.runV (As := [.int (nI i), .int (nI 0)]) (rest := []) ⟨hx, hb, hml, hown, hts⟩ (c_X2_cell l dC dI A cI cQ σ (i := i) (j := 0) (by omega)) (cwV 2 hts gX3_edit_X2_cell rfl rfl rfl (by decide +kernel) ⟨Nat.le_of_ble_eq_true rfl, Nat.le_of_ble_eq_true rfl⟩) ⟨bl_P, va_recv hK hP (ci := 2) (q0 := 2) rfl rfl, fun U hU hW => ⟨rfl, by rw [hU]; exact hP, hX.warm hW⟩⟩ rfl rfl hl.1 rfl (lv_room (Nat.le_of_ble_eq_true rfl)) dX3_edit_20 ⟨Nat.zero_le _, Nat.zero_le _⟩) (fun r er => ?_)
  obtain rfl : r = tcS σ (3 * i + 0) := er
  refine lv_istore_n (lv' := [(3, .int (tcS σ (3 * i + 0))), (0, .ref (A 0)), (1, .int (nI i)), (2, .int (nI a))]) hx hb dX3_edit_23 rfl hl (by decide) rfl (fun ls hl => ?_)
  refine lv_iload_n hx hb dX3_edit_24 rfl (lv_at hl 0 rfl) ?_
  refine lv_iconst (v := (-1)) hx hb dX3_edit_25 (by decide) ?_
  refine lv_icmp_ne (tgt := 39) hx hb dX3_edit_26 (by decide) (fun c26_0 => ?_) (fun c26_0 => ?_)
  · exact absurd h c26_0
  · skip
    obtain ⟨sa, hsa⟩ := hX.2.2 (152, "a leaf has no action") (List.mem_of_getElem? (i := 15) rfl)
    exact vx_throwS (A := fun q => s.heap.size ≤ q) (cls := nUO) (text := "a leaf has no action") (names := upE) hx hb hlt hown (by decide +kernel) (by decide +kernel) (hts _ (List.mem_of_getElem? (i := 1) rfl)) (hts _ (List.mem_of_getElem? (i := 2) rfl)) hsa (vx_hat (fun w h => hts w (List.mem_cons_of_mem _ (List.mem_append_left _ (List.mem_append_left _ (List.mem_append_right _ h))))) xbUO (hX.xb _)) goUO hH.1 hH.2.1 va_S.rf (hl.1.trans hml.symm) dX3_edit_29 dX3_edit_32 dX3_edit_33 dX3_edit_35 dX3_edit_38 (fun x hx => (hnt x hx).elim) (show 2 + 3 < 30 by omega) (show _ + (13 * (2 + 1) + 43) ≤ 700 by first | decide | (simp only [List.map_cons, List.map_nil, List.sum_cons, List.sum_nil, Value.category]; omega)) (show 0 + 1 ≤ 1 by decide) (show 0 + 6 ≤ 6 by decide) hlocks (fun t _ hz hk => ⟨(), trivial, rfl, hz, fun q hq _ => hk q hq⟩) (fun z h => nomatch h) (show 0 + 1 ≤ 1 by decide) (show 0 + 6 ≤ 6 by decide)
set_option maxHeartbeats 4000000 in
set_option maxRecDepth 100000 in
/-- right: it throws (IS) -/
theorem x_X3_right_IS (l : Launch) (dC : Nat → ClassId) (dI : Nat → Nat → Nat) (A : Nat → Nat) (cI cQ : ClassId) (σ : HS) (hlt : l.stackTraces = false) (sz : Nat)  (h : ctS σ = 0) : vx_Met l yX3_right wsX3_right RMx (va_Pc [.ref (A 0)] (PTw dC dI A cI cQ sz σ)) (qiE sz) (xcE sz nIS) 1 6 (fun q => sz ≤ q) := by
  refine vx_ofW (cc := cX3_right) (maxL := 1) (ret := (some .boolean)) (by decide) rfl ?_
  intro p e s m args below meth c s₁ B hml hnt hv
  obtain ⟨rfl, hsz, hP, hX, hH⟩ := hv
  subst hsz
  have hx := B.exec
  have hb := B.bytes
  have hr := B.returns
  have hts := atoms_spec (ws := wsX3_right) B.pre
  have hown : s.vm.findClass RX3 = some m.cls := findClass_of_methodNamed B.named
  have hlocks := B.notSynchronized
  have hK := hX.1
  have hinX3 : ∀ w ∈ wsX30, w ∈ wsX3_right := fun _ h => List.mem_cons_of_mem _ (List.mem_append_left _ (List.mem_append_left _ (List.mem_append_left _ (List.mem_append_right _ h))))
  have hl := lv_entry ([.ref (A 0)]) (n := 1) (Nat.le_of_ble_eq_true rfl)
  rw [lg_entry_eq]
  generalize (lg_sl ([.ref (A 0)]) ++ List.replicate (1 - (lg_sl ([.ref (A 0)])).length) Slot.unset).toArray = ls at hl ⊢
  have hl : lv_has ls 1 [(0, .ref (A 0))] := hl
  refine lv_aload_n hx hb dX3_right_0 rfl (lv_at hl 0 rfl) ?_
  refine vx_callv (A0 := fun q => s.heap.size ≤ q) (vx_runV (As := []) (rest := []) ⟨hx, hb, hml, hown, hts⟩ (x_X3_needPlan l dC dI A cI cQ σ hlt s.heap.size  h) (cwV 0 hts gX3_right_X3_needPlan rfl rfl rfl (by decide +kernel) ⟨Nat.le_of_ble_eq_true rfl, Nat.le_of_ble_eq_true rfl⟩) ⟨bl_Tw, va_recv hK hP (ci := 3) (q0 := 0) rfl rfl, fun U hU hW => ⟨rfl, by rw [hU], by rw [hU]; exact hP, hX.warm hW, by rw [hU]; exact HX.moved hW.alike hH⟩⟩ rfl rfl hl.1 rfl (lv_room (Nat.le_of_ble_eq_true rfl)) dX3_right_1 ⟨show 0 + 1 ≤ 1 by decide, show 0 + 6 ≤ 6 by decide⟩) va_S.rf (fun q _ h => h) (fun q h => h) (fun q _ h => h) (fun E ce q9 u t H1 locs1 ht hvm hp hB hz hk hS hc1 hc2 hc3 => ?_) (fun u t H1 locs1 ht hvm hp => hp.elim)
  exact vx_out (fun x hx => (hnt x hx).elim) hlocks hc1 hc2 hc3 (fun t2 ht2 hv2 => ⟨(), trivial, hB, by rw [ht2]; exact hz, fun q hq hnq => by rw [ht2]; exact hk q hq hnq⟩) hS.2.2 (Nat.le_refl _) (Nat.le_refl _)
set_option maxHeartbeats 4000000 in
set_option maxRecDepth 100000 in
/-- hide: it throws (IA) -/
theorem x_X3_hide_IA (l : Launch) (dC : Nat → ClassId) (dI : Nat → Nat → Nat) (A : Nat → Nat) (cI cQ : ClassId) (σ : HS) (hlt : l.stackTraces = false) (sz : Nat) (x : Int32) (h : x < 0 ∨ ¬ x < 16) : vx_Met l yX3_hide wsX3_hide RMx (va_Pc [.ref (A 0), .int x] (PTw dC dI A cI cQ sz σ)) (qiE sz) (xcE sz nIA) 1 6 (fun q => sz ≤ q) := by
  refine vx_ofW (cc := cX3_hide) (maxL := 2) (ret := (some .boolean)) (by decide) rfl ?_
  intro p e s m args below meth c s₁ B hml hnt hv
  obtain ⟨rfl, hsz, hP, hX, hH⟩ := hv
  subst hsz
  have hx := B.exec
  have hb := B.bytes
  have hr := B.returns
  have hts := atoms_spec (ws := wsX3_hide) B.pre
  have hown : s.vm.findClass RX3 = some m.cls := findClass_of_methodNamed B.named
  have hlocks := B.notSynchronized
  have hK := hX.1
  have hl := lv_entry ([.ref (A 0), .int x]) (n := 2) (Nat.le_of_ble_eq_true rfl)
  rw [lg_entry_eq]
  generalize (lg_sl ([.ref (A 0), .int x]) ++ List.replicate (2 - (lg_sl ([.ref (A 0), .int x])).length) Slot.unset).toArray = ls at hl ⊢
  have hl : lv_has ls 2 [(0, .ref (A 0)), (1, .int x)] := hl
  refine lv_iload_n hx hb dX3_hide_0 rfl (lv_at hl 1 rfl) ?_
  refine lv_if_lt (tgt := 10) hx hb dX3_hide_1 (by decide) (fun c1_0 => ?_) (fun c1_0 => ?_)
  · skip
    obtain ⟨sa, hsa⟩ := hX.2.2 (164, "no such state") (List.mem_of_getElem? (i := 17) rfl)
    exact vx_throwS (A := fun q => s.heap.size ≤ q) (cls := nIA) (text := "no such state") (names := upE) hx hb hlt hown (by decide +kernel) (by decide +kernel) (hts _ (List.mem_of_getElem? (i := 1) rfl)) (hts _ (List.mem_of_getElem? (i := 2) rfl)) hsa (vx_hat (fun w h => hts w (List.mem_cons_of_mem _ (List.mem_append_right _ h))) xbIA (hX.xb _)) goIA hH.1 hH.2.1 va_S.rf (hl.1.trans hml.symm) dX3_hide_10 dX3_hide_13 dX3_hide_14 dX3_hide_16 dX3_hide_19 (fun x hx => (hnt x hx).elim) (show 2 + 3 < 30 by omega) (show _ + (13 * (2 + 1) + 43) ≤ 700 by first | decide | (simp only [List.map_cons, List.map_nil, List.sum_cons, List.sum_nil, Value.category]; omega)) (show 0 + 1 ≤ 1 by decide) (show 0 + 6 ≤ 6 by decide) hlocks (fun t _ hz hk => ⟨(), trivial, rfl, hz, fun q hq _ => hk q hq⟩) (fun z h => nomatch h) (show 0 + 1 ≤ 1 by decide) (show 0 + 6 ≤ 6 by decide)
  · skip
    refine lv_iload_n hx hb dX3_hide_4 rfl (lv_at hl 1 rfl) ?_
    refine lv_bipush (v := 16) hx hb dX3_hide_5 (by decide) ?_
    refine lv_icmp_lt (tgt := 20) hx hb dX3_hide_7 (by decide) (fun c7_1 => ?_) (fun c7_1 => ?_)
    · exact absurd h (by rintro (z | z); exact c1_0 z; exact z c7_1)
    · skip
      obtain ⟨sa, hsa⟩ := hX.2.2 (164, "no such state") (List.mem_of_getElem? (i := 17) rfl)
      exact vx_throwS (A := fun q => s.heap.size ≤ q) (cls := nIA) (text := "no such state") (names := upE) hx hb hlt hown (by decide +kernel) (by decide +kernel) (hts _ (List.mem_of_getElem? (i := 1) rfl)) (hts _ (List.mem_of_getElem? (i := 2) rfl)) hsa (vx_hat (fun w h => hts w (List.mem_cons_of_mem _ (List.mem_append_right _ h))) xbIA (hX.xb _)) goIA hH.1 hH.2.1 va_S.rf (hl.1.trans hml.symm) dX3_hide_10 dX3_hide_13 dX3_hide_14 dX3_hide_16 dX3_hide_19 (fun x hx => (hnt x hx).elim) (show 2 + 3 < 30 by omega) (show _ + (13 * (2 + 1) + 43) ≤ 700 by first | decide | (simp only [List.map_cons, List.map_nil, List.sum_cons, List.sum_nil, Value.category]; omega)) (show 0 + 1 ≤ 1 by decide) (show 0 + 6 ≤ 6 by decide) hlocks (fun t _ hz hk => ⟨(), trivial, rfl, hz, fun q hq _ => hk q hq⟩) (fun z h => nomatch h) (show 0 + 1 ≤ 1 by decide) (show 0 + 6 ≤ 6 by decide)
set_option maxHeartbeats 4000000 in
set_option maxRecDepth 100000 in
/-- execute: it throws (IS1) -/
theorem x_X3_execute_IS1 (l : Launch) (dC : Nat → ClassId) (dI : Nat → Nat → Nat) (A : Nat → Nat) (cI cQ : ClassId) (σ : HS) (hlt : l.stackTraces = false) (sz : Nat)  (h : ctS σ = 0) : vx_Met l yX3_execute wsX3_execute RMx (va_Pc [.ref (A 0)] (PTw dC dI A cI cQ sz σ)) (qiE sz) (xcE sz nIS) 1 6 (fun q => sz ≤ q) := by
  refine vx_ofW (cc := cX3_execute) (maxL := 1) (ret := (some .boolean)) (by decide) rfl ?_
  intro p e s m args below meth c s₁ B hml hnt hv
  obtain ⟨rfl, hsz, hP, hX, hH⟩ := hv
  subst hsz
  have hx := B.exec
  have hb := B.bytes
  have hr := B.returns
  have hts := atoms_spec (ws := wsX3_execute) B.pre
  have hown : s.vm.findClass RX3 = some m.cls := findClass_of_methodNamed B.named
  have hlocks := B.notSynchronized
  have hK := hX.1
  have hinX3 : ∀ w ∈ wsX30, w ∈ wsX3_execute := fun _ h => List.mem_cons_of_mem _ (List.mem_append_left _ (List.mem_append_left _ (List.mem_append_left _ (List.mem_append_right _ h))))
  have hl := lv_entry ([.ref (A 0)]) (n := 1) (Nat.le_of_ble_eq_true rfl)
  rw [lg_entry_eq]
  generalize (lg_sl ([.ref (A 0)]) ++ List.replicate (1 - (lg_sl ([.ref (A 0)])).length) Slot.unset).toArray = ls at hl ⊢
  have hl : lv_has ls 1 [(0, .ref (A 0))] := hl
  refine lv_aload_n hx hb dX3_execute_0 rfl (lv_at hl 0 rfl) ?_
  refine vx_callv (A0 := fun q => s.heap.size ≤ q) (vx_runV (As := []) (rest := []) ⟨hx, hb, hml, hown, hts⟩ (x_X3_needPlan l dC dI A cI cQ σ hlt s.heap.size  h) (cwV 0 hts gX3_execute_X3_needPlan rfl rfl rfl (by decide +kernel) ⟨Nat.le_of_ble_eq_true rfl, Nat.le_of_ble_eq_true rfl⟩) ⟨bl_Tw, va_recv hK hP (ci := 3) (q0 := 0) rfl rfl, fun U hU hW => ⟨rfl, by rw [hU], by rw [hU]; exact hP, hX.warm hW, by rw [hU]; exact HX.moved hW.alike hH⟩⟩ rfl rfl hl.1 rfl (lv_room (Nat.le_of_ble_eq_true rfl)) dX3_execute_1 ⟨show 0 + 1 ≤ 1 by decide, show 0 + 6 ≤ 6 by decide⟩) va_S.rf (fun q _ h => h) (fun q h => h) (fun q _ h => h) (fun E ce q9 u t H1 locs1 ht hvm hp hB hz hk hS hc1 hc2 hc3 => ?_) (fun u t H1 locs1 ht hvm hp => hp.elim)
  exact vx_out (fun x hx => (hnt x hx).elim) hlocks hc1 hc2 hc3 (fun t2 ht2 hv2 => ⟨(), trivial, hB, by rw [ht2]; exact hz, fun q hq hnq => by rw [ht2]; exact hk q hq hnq⟩) hS.2.2 (Nat.le_refl _) (Nat.le_refl _)
set_option maxHeartbeats 4000000 in
set_option maxRecDepth 100000 in
/-- execute: it throws (IS2) -/
theorem x_X3_execute_IS2 (l : Launch) (dC : Nat → ClassId) (dI : Nat → Nat → Nat) (A : Nat → Nat) (cI cQ : ClassId) (σ : HS) (hlt : l.stackTraces = false) (sz : Nat)  (h1 : ¬ ctS σ = 0) (h : hiS σ = -1) : vx_Met l yX3_execute wsX3_execute RMx (va_Pc [.ref (A 0)] (PTw dC dI A cI cQ sz σ)) (qiE sz) (xcE sz nIS) 1 6 (fun q => sz ≤ q) := by
  refine vx_ofW (cc := cX3_execute) (maxL := 1) (ret := (some .boolean)) (by decide) rfl ?_
  intro p e s m args below meth c s₁ B hml hnt hv
  obtain ⟨rfl, hsz, hP, hX, hH⟩ := hv
  subst hsz
  have hx := B.exec
  have hb := B.bytes
  have hr := B.returns
  have hts := atoms_spec (ws := wsX3_execute) B.pre
  have hown : s.vm.findClass RX3 = some m.cls := findClass_of_methodNamed B.named
  have hlocks := B.notSynchronized
  have hK := hX.1
  have hinX3 : ∀ w ∈ wsX30, w ∈ wsX3_execute := fun _ h => List.mem_cons_of_mem _ (List.mem_append_left _ (List.mem_append_left _ (List.mem_append_left _ (List.mem_append_right _ h))))
  have hl := lv_entry ([.ref (A 0)]) (n := 1) (Nat.le_of_ble_eq_true rfl)
  rw [lg_entry_eq]
  generalize (lg_sl ([.ref (A 0)]) ++ List.replicate (1 - (lg_sl ([.ref (A 0)])).length) Slot.unset).toArray = ls at hl ⊢
  have hl : lv_has ls 1 [(0, .ref (A 0))] := hl
  refine lv_aload_n hx hb dX3_execute_0 rfl (lv_at hl 0 rfl) ?_
  refine va_csv (W.runV (As := []) (rest := []) ⟨hx, hb, hml, hown, hts⟩ (k_X3_needPlan l dC dI A cI cQ σ  h1) (cwV 0 hts gX3_execute_X3_needPlan rfl rfl rfl (by decide +kernel) ⟨Nat.le_of_ble_eq_true rfl, Nat.le_of_ble_eq_true rfl⟩) ⟨bl_P, va_recv hK hP (ci := 3) (q0 := 0) rfl rfl, fun U hU hW => ⟨rfl, by rw [hU]; exact hP, hX.warm hW⟩⟩ rfl rfl hl.1 rfl (lv_room (Nat.le_of_ble_eq_true rfl)) dX3_execute_1 ⟨Nat.zero_le _, Nat.zero_le _⟩) (fun _ => ?_)
  refine lv_aload_n hx hb dX3_execute_4 rfl (lv_at hl 0 rfl) ?_
  refine va_get (D := (dC, dI)) (ci := 3) (v := .int (hiS σ)) (C := RX3) (T := TX3) (N := 9) hx hb hts hinX3 hown hK hP 0 rfl rfl 7 (by decide) (hts _ (List.mem_of_getElem? (i := 3) rfl)) (fun _ h9 => h9) rfl dX3_execute_5 ?_
  refine lv_iconst (v := (-1)) hx hb dX3_execute_8 (by decide) ?_
  refine lv_icmp_ne (tgt := 22) hx hb dX3_execute_9 (by decide) (fun c9_0 => ?_) (fun c9_0 => ?_)
  · exact absurd h c9_0
  · skip
    obtain ⟨sa, hsa⟩ := hX.2.2 (173, "no state is hidden") (List.mem_of_getElem? (i := 18) rfl)
    exact vx_throwS (A := fun q => s.heap.size ≤ q) (cls := nIS) (text := "no state is hidden") (names := upE) hx hb hlt hown (by decide +kernel) (by decide +kernel) (hts _ (List.mem_of_getElem? (i := 1) rfl)) (hts _ (List.mem_of_getElem? (i := 2) rfl)) hsa (vx_hat (fun w h => hts w (List.mem_cons_of_mem _ (List.mem_append_right _ h))) xbIS (hX.xb _)) goIS hH.1 hH.2.1 va_S.rf (hl.1.trans hml.symm) dX3_execute_12 dX3_execute_15 dX3_execute_16 dX3_execute_18 dX3_execute_21 (fun x hx => (hnt x hx).elim) (show 2 + 3 < 30 by omega) (show _ + (13 * (2 + 1) + 43) ≤ 700 by first | decide | (simp only [List.map_cons, List.map_nil, List.sum_cons, List.sum_nil, Value.category]; omega)) (show 0 + 1 ≤ 1 by decide) (show 0 + 6 ≤ 6 by decide) hlocks (fun t _ hz hk => ⟨(), trivial, rfl, hz, fun q hq _ => hk q hq⟩) (fun z h => nomatch h) (show 0 + 1 ≤ 1 by decide) (show 0 + 6 ≤ 6 by decide)
set_option maxHeartbeats 4000000 in
set_option maxRecDepth 100000 in
/-- trace: it throws (IO) -/
theorem x_X3_trace_IO (l : Launch) (dC : Nat → ClassId) (dI : Nat → Nat → Nat) (A : Nat → Nat) (cI cQ : ClassId) (σ : HS) (hlt : l.stackTraces = false) (sz : Nat) (x : Int32) (h : x < 0 ∨ ¬ x < maS σ) : vx_Met l yX3_trace wsX3_trace RMx (va_Pc [.ref (A 0), .int x] (PTw dC dI A cI cQ sz σ)) (qiE sz) (xcE sz nIO) 1 6 (fun q => sz ≤ q) := by
  refine vx_ofW (cc := cX3_trace) (maxL := 2) (ret := (some .int)) (by decide) rfl ?_
  intro p e s m args below meth c s₁ B hml hnt hv
  obtain ⟨rfl, hsz, hP, hX, hH⟩ := hv
  subst hsz
  have hx := B.exec
  have hb := B.bytes
  have hr := B.returns
  have hts := atoms_spec (ws := wsX3_trace) B.pre
  have hown : s.vm.findClass RX3 = some m.cls := findClass_of_methodNamed B.named
  have hlocks := B.notSynchronized
  have hK := hX.1
  have hinX3 : ∀ w ∈ wsX30, w ∈ wsX3_trace := fun _ h => List.mem_cons_of_mem _ (List.mem_append_left _ (List.mem_append_right _ h))
  have hl := lv_entry ([.ref (A 0), .int x]) (n := 2) (Nat.le_of_ble_eq_true rfl)
  rw [lg_entry_eq]
  generalize (lg_sl ([.ref (A 0), .int x]) ++ List.replicate (2 - (lg_sl ([.ref (A 0), .int x])).length) Slot.unset).toArray = ls at hl ⊢
  have hl : lv_has ls 2 [(0, .ref (A 0)), (1, .int x)] := hl
  refine lv_iload_n hx hb dX3_trace_0 rfl (lv_at hl 1 rfl) ?_
  refine lv_if_lt (tgt := 12) hx hb dX3_trace_1 (by decide) (fun c1_0 => ?_) (fun c1_0 => ?_)
  · skip
    obtain ⟨sa, hsa⟩ := hX.2.2 (182, "no such action was made") (List.mem_of_getElem? (i := 19) rfl)
    exact vx_throwS (A := fun q => s.heap.size ≤ q) (cls := nIO) (text := "no such action was made") (names := upE) hx hb hlt hown (by decide +kernel) (by decide +kernel) (hts _ (List.mem_of_getElem? (i := 1) rfl)) (hts _ (List.mem_of_getElem? (i := 2) rfl)) hsa (vx_hat (fun w h => hts w (List.mem_cons_of_mem _ (List.mem_append_right _ h))) xbIO (hX.xb _)) goIO hH.1 hH.2.1 va_S.rf (hl.1.trans hml.symm) dX3_trace_12 dX3_trace_15 dX3_trace_16 dX3_trace_18 dX3_trace_21 (fun x hx => (hnt x hx).elim) (show 2 + 3 < 30 by omega) (show _ + (13 * (2 + 1) + 43) ≤ 700 by first | decide | (simp only [List.map_cons, List.map_nil, List.sum_cons, List.sum_nil, Value.category]; omega)) (show 0 + 1 ≤ 1 by decide) (show 0 + 6 ≤ 6 by decide) hlocks (fun t _ hz hk => ⟨(), trivial, rfl, hz, fun q hq _ => hk q hq⟩) (fun z h => nomatch h) (show 0 + 1 ≤ 1 by decide) (show 0 + 6 ≤ 6 by decide)
  · skip
    refine lv_iload_n hx hb dX3_trace_4 rfl (lv_at hl 1 rfl) ?_
    refine lv_aload_n hx hb dX3_trace_5 rfl (lv_at hl 0 rfl) ?_
    refine va_get (D := (dC, dI)) (ci := 3) (v := .int (maS σ)) (C := RX3) (T := TX3) (N := 9) hx hb hts hinX3 hown hK hP 0 rfl rfl 8 (by decide) (hts _ (List.mem_of_getElem? (i := 3) rfl)) (fun _ h9 => h9) rfl dX3_trace_6 ?_
    refine lv_icmp_lt (tgt := 22) hx hb dX3_trace_9 (by decide) (fun c9_1 => ?_) (fun c9_1 => ?_)
    · exact absurd h (by rintro (z | z); exact c1_0 z; exact z c9_1)
    · skip
      obtain ⟨sa, hsa⟩ := hX.2.2 (182, "no such action was made") (List.mem_of_getElem? (i := 19) rfl)
      exact vx_throwS (A := fun q => s.heap.size ≤ q) (cls := nIO) (text := "no such action was made") (names := upE) hx hb hlt hown (by decide +kernel) (by decide +kernel) (hts _ (List.mem_of_getElem? (i := 1) rfl)) (hts _ (List.mem_of_getElem? (i := 2) rfl)) hsa (vx_hat (fun w h => hts w (List.mem_cons_of_mem _ (List.mem_append_right _ h))) xbIO (hX.xb _)) goIO hH.1 hH.2.1 va_S.rf (hl.1.trans hml.symm) dX3_trace_12 dX3_trace_15 dX3_trace_16 dX3_trace_18 dX3_trace_21 (fun x hx => (hnt x hx).elim) (show 2 + 3 < 30 by omega) (show _ + (13 * (2 + 1) + 43) ≤ 700 by first | decide | (simp only [List.map_cons, List.map_nil, List.sum_cons, List.sum_nil, Value.category]; omega)) (show 0 + 1 ≤ 1 by decide) (show 0 + 6 ≤ 6 by decide) hlocks (fun t _ hz hk => ⟨(), trivial, rfl, hz, fun q hq _ => hk q hq⟩) (fun z h => nomatch h) (show 0 + 1 ≤ 1 by decide) (show 0 + 6 ≤ 6 by decide)
