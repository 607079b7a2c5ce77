/-! ===== the law's calls: the class's answer in out[0], the exception as a number ===== -/
abbrev LW (A : Nat → Nat) (cI cQ cL : ClassId) (σ : HS) (o : Nat) (f : Nat → Int64) : va_W := hfW A cI cQ σ ++ [(o, .inl (cL, 1, .inr (.inl f)))]
abbrev xs5 : List String := [nIO, nIA, nIS, nUO, nNS]
def NCs (U : State) : Prop := ∀ E ∈ xs5, ∀ F ∈ xs5, E ≠ F → va_Nc E F U
theorem NCs.moved {u U : State} (hvm : u.vm.Alike U.vm) (h : NCs u) : NCs U := fun E h1 F h2 h3 => va_Nc.moved hvm (h E h1 F h2 h3)
def LF (dC : Nat → ClassId) (dI : Nat → Nat → Nat) (A : Nat → Nat) (cI cQ cL : ClassId) (sz : Nat) (σ : HS) (o : Nat) (f : Nat → Int64) (U : State) : Prop := U.heap.size = sz ∧ va_P (dC, dI) vwCl (LW A cI cQ cL σ o f) U.heap ∧ KX dC dI cI cQ U ∧ va_K (dC, dI) vwCl [(cL, .long)] U ∧ va_D (fun _ => True) (LW A cI cQ cL σ o f) ∧ HX (va_A (LW A cI cQ cL σ o f) sz) U U.heap ∧ NCs U
def LB (dC : Nat → ClassId) (dI : Nat → Nat → Nat) (A : Nat → Nat) (cI cQ cL : ClassId) (o : Nat) (V : Nat → Prop) (u : HS × (Nat → Int64)) (t : State) : Prop := va_P (dC, dI) vwCl (LW A cI cQ cL u.1 o u.2) t.heap ∧ va_D V (LW A cI cQ cL u.1 o u.2)
theorem bl_L {av : List Value} {dC : Nat → ClassId} {dI : Nat → Nat → Nat} {A : Nat → Nat} {cI cQ cL : ClassId} {sz : Nat} {σ : HS} {o : Nat} {f : Nat → Int64} : FrameBlind (va_Pc av (LF dC dI A cI cQ cL sz σ o f)) := fun a U g mk q => ⟨q.1, q.2.1, q.2.2.1, q.2.2.2.1.same g mk a, va_K.moved (u := U) (U := U.calling g mk a) (Vm.Alike.refl U.vm) q.2.2.2.2.1, q.2.2.2.2.2.1, HX.moved (U := U.calling g mk a) (Vm.Alike.refl U.vm) q.2.2.2.2.2.2.1, NCs.moved (u := U) (U := U.calling g mk a) (Vm.Alike.refl U.vm) q.2.2.2.2.2.2.2⟩
abbrev RMw : Room := { frames := 41, cells := 1, slots := 6, locals := 1000 }
theorem met_of {l : Launch} {y : MethodName} {ws : List Cond} {rm : Room} {Pc : Array Value → State → Prop} {Qc : Array Value → State → Outcome → State → Prop} {mc ms : Nat} {free : Addr → Prop} (h : vx_Met l y ws rm Pc Qc (fun _ _ _ => False) mc ms free) : Met l y ws rm Pc Qc mc ms free := MetFree.mono h (fun _ _ q => q) (fun _ _ _ _ _ q => q) (by
  rintro a s o t _ (z | ⟨q, _, E, ce, L, z, _⟩)
  · exact z
  · exact z.elim)
theorem ap_P {D : va_G} {cl : List vw_C} {w r : va_W} {H : Heap} (h : va_P D cl (w ++ r) H) : va_P D cl w H := fun k q hk => h k q (by rw [List.getElem?_append_left (List.getElem?_eq_some_iff.mp hk).1]; exact hk)
theorem ap_D {V : Nat → Prop} {w r : va_W} (h : va_D V (w ++ r)) : va_D V w := ⟨fun i j p q hi hj => h.1 i j p q (by rw [List.getElem?_append_left (List.getElem?_eq_some_iff.mp hi).1]; exact hi) (by rw [List.getElem?_append_left (List.getElem?_eq_some_iff.mp hj).1]; exact hj), fun k q hk => h.2 k q (by rw [List.getElem?_append_left (List.getElem?_eq_some_iff.mp hk).1]; exact hk)⟩
theorem ap_A {w r : va_W} {sz q : Nat} (h : va_A w sz q) : va_A (w ++ r) sz q := h.elim (fun ⟨k, e, hk⟩ => Or.inl ⟨k, e, by rw [List.getElem?_append_left (List.getElem?_eq_some_iff.mp hk).1]; exact hk⟩) Or.inr
theorem in01 : vp_in (0 : Int32) 1 := by first | decide | exact vp_in_nI (show 0 < 1 by omega) (by decide)
theorem updL_0 (f : Nat → Int64) (x : Int64) : vp_updL f (0 : Int32).toNatClampNeg x 0 = x := rfl
def lb (v : Int32) : Int64 := if v = 0 then 0 else 1
set_option maxHeartbeats 4000000 in
set_option maxRecDepth 100000 in
/-- action -/
theorem w_action (l : Launch) (dC : Nat → ClassId) (dI : Nat → Nat → Nat) (A : Nat → Nat) (cI cQ cL : ClassId) (σ : HS) (x : Int32) (mm : Int32) (vv : Int32) (sn : Int32) (o : Nat) (f : Nat → Int64) (sz : Nat) {oE : Option String} {v k : Int32} {S : HS → Prop} (hC : CRes l dC dI A cI cQ σ yX3_action wsX3_action [.ref (A 0), .int x, .int mm, .int vv, .int sn] oE v S) (hk0 : (oE = none ∧ k = 0) ∨ ∃ j, j < 2 ∧ oE = ([nIO, nIA] : List String)[j]? ∧ k = nI (j + 1)) :
    Met l yL_action wsL_action RMw (va_Pc [.ref (A 0), .int x, .int mm, .int vv, .int sn, .ref o] (LF dC dI A cI cQ cL sz σ o f)) (va_Qi (fun (r : Int32) (u : HS × (Nat → Int64)) => r = k ∧ S u.1 ∧ (oE = none → u.2 0 = lb v)) (LB dC dI A cI cQ cL o (va_A (LW A cI cQ cL σ o f) sz)) (va_A (LW A cI cQ cL σ o f) sz)) 1 6 (va_A (LW A cI cQ cL σ o f) sz) := by
  refine met_of (vx_ofWH (cc := cL_action) (maxL := 7) (ret := some .int) (by decide) rfl ?_)
  intro p e s m args below meth c s₁ B hml hv
  obtain ⟨rfl, hsz, hP, hX, hKL, hD0, hH, hN⟩ := hv
  subst hsz
  have hx := B.exec
  have hb := B.bytes
  have hr := B.returns
  have hts := atoms_spec (ws := wsL_action) B.pre
  have hown : s.vm.findClass RL = some m.cls := findClass_of_methodNamed B.named
  have htb := vx_table (x := yL_action) B (hts _ List.mem_cons_self)
  have hK := hX.1
  have hPc := ap_P hP
  have hDc := ap_D hD0
  have hHc : HX (va_A (hfW A cI cQ σ) s.heap.size) s s.heap := hH.narrow fun q h => ap_A h
  have hFc : ∀ q, va_A (hfW A cI cQ σ) s.heap.size q → va_A (LW A cI cQ cL σ o f) s.heap.size q := fun q h => ap_A h
  have hS : va_S (va_A (LW A cI cQ cL σ o f) s.heap.size) s.heap s.heap [] := va_S.rf
  have hl := lv_entry ([.ref (A 0), .int x, .int mm, .int vv, .int sn, .ref o]) (n := 7) (Nat.le_of_ble_eq_true rfl)
  rw [lg_entry_eq]
  generalize (lg_sl ([.ref (A 0), .int x, .int mm, .int vv, .int sn, .ref o]) ++ List.replicate (7 - (lg_sl ([.ref (A 0), .int x, .int mm, .int vv, .int sn, .ref o])).length) Slot.unset).toArray = ls at hl ⊢
  have hl : lv_has ls 7 [(0, .ref (A 0)), (1, .int x), (2, .int mm), (3, .int vv), (4, .int sn), (5, .ref o)] := hl
  refine lv_aload hx hb dL_action_0 (lv_at hl 5 rfl) ?_
  refine lv_iconst (v := 0) hx hb dL_action_2 (by decide) ?_
  refine lv_aload_n hx hb dL_action_3 rfl (lv_at hl 0 rfl) ?_
  refine lv_iload_n hx hb dL_action_4 rfl (lv_at hl 1 rfl) ?_
  refine lv_iload_n hx hb dL_action_5 rfl (lv_at hl 2 rfl) ?_
  refine lv_iload_n hx hb dL_action_6 rfl (lv_at hl 3 rfl) ?_
  refine lv_iload hx hb dL_action_7 (lv_at hl 4 rfl) ?_
  refine vx_calli (vx_runV (As := [.int x, .int mm, .int vv, .int sn]) (rest := [.int 0, .ref o]) ⟨hx, hb, hml, hown, hts⟩ (hC s.heap.size) (cwV 4 hts gL_action_X3_action rfl rfl rfl (by decide +kernel) ⟨Nat.le_of_ble_eq_true rfl, Nat.le_of_ble_eq_true rfl⟩) ⟨bl_FX, va_recv hK hPc (ci := 3) (q0 := 0) rfl rfl, fun U hU hW => ⟨rfl, ⟨by rw [hU], by rw [hU]; exact hPc, hX.warm hW, hDc⟩, by rw [hU]; exact HX.moved hW.alike hHc⟩⟩ rfl rfl hl.1 rfl (lv_room (Nat.le_of_ble_eq_true rfl)) dL_action_9 ⟨Nat.le_of_ble_eq_true rfl, Nat.le_of_ble_eq_true rfl⟩) hS (fun q _ h => hFc q h) hFc (fun q _ h => hFc q h) ?_ ?_
  · intro E ce q9 u t H locs ht hvm hpx hBX hz1 hk1 hS hcell hcv hcl
    obtain ⟨hE, hP1, hD1⟩ := hBX
    rw [ht] at hP1
    obtain ⟨hP, hD⟩ := fr_L (r := [(o, .inl (cL, 1, .inr (.inl f)))]) rfl hP hD0 hP1 hD1 hk1
    rcases hk0 with ⟨z, -⟩ | ⟨j, hj, z, rfl⟩
    · exact absurd (hE.symm.trans z) (Option.some_ne_none E)
    · obtain rfl | rfl : j = 0 ∨ j = 1 := by omega
      · skip
        obtain rfl : E = nIO := Option.some.inj (hE.symm.trans z)
        refine vx_catch (own := RL) (name := nIO) hown [] ⟨0, 21, 24, 13⟩ [⟨0, 21, 28, 15⟩] htb (fun z hz => nomatch hz) rfl (by decide) (hts _ (List.mem_of_getElem? (i := 1) rfl)) (hX.xb _ _ (List.mem_of_getElem? (i := 13) rfl)) hcell hcv hcl ?_
        refine lv_astore (lv' := [(6, .ref q9), (0, .ref (A 0)), (1, .int x), (2, .int mm), (3, .int vv), (4, .int sn), (5, .ref o)]) hx hb dL_action_24 hl (by decide) rfl (fun ls hl => ?_)
        refine lv_iconst (v := 1) hx hb dL_action_26 (by decide) ?_
        exact vx_ret (W.iret hx hb hr (fun t ht hW => ⟨⟨_, (u, f), rfl, ⟨rfl, hpx, fun z2 => absurd (hE.symm.trans z2) (Option.some_ne_none _)⟩, by rw [ht]; exact hP, hD⟩, hS.F ht⟩) hS.2.2 dL_action_27)
      · skip
        obtain rfl : E = nIA := Option.some.inj (hE.symm.trans z)
        refine vx_catch (own := RL) (name := nIA) hown [⟨0, 21, 24, 13⟩] ⟨0, 21, 28, 15⟩ [] htb (List.forall_mem_cons.mpr ⟨Or.inr ⟨by decide, nIO, hts _ (List.mem_of_getElem? (i := 1) rfl), hN nIA (by decide) nIO (by decide) (by decide)⟩, fun z hz => nomatch hz⟩) rfl (by decide) (hts _ (List.mem_of_getElem? (i := 2) rfl)) (hX.xb _ _ (List.mem_of_getElem? (i := 14) rfl)) hcell hcv hcl ?_
        refine lv_astore (lv' := [(6, .ref q9), (0, .ref (A 0)), (1, .int x), (2, .int mm), (3, .int vv), (4, .int sn), (5, .ref o)]) hx hb dL_action_28 hl (by decide) rfl (fun ls hl => ?_)
        refine lv_iconst (v := 2) hx hb dL_action_30 (by decide) ?_
        exact vx_ret (W.iret hx hb hr (fun t ht hW => ⟨⟨_, (u, f), rfl, ⟨rfl, hpx, fun z2 => absurd (hE.symm.trans z2) (Option.some_ne_none _)⟩, by rw [ht]; exact hP, hD⟩, hS.F ht⟩) hS.2.2 dL_action_31)
  · intro r u t H locs ht hvm hw hB hz1 hk1 hS
    obtain ⟨hE, hrv, hpx⟩ := hw
    subst hrv
    obtain ⟨hP1, hD1⟩ := hB
    rw [ht] at hP1
    obtain ⟨hP, hD⟩ := fr_L (r := [(o, .inl (cL, 1, .inr (.inl f)))]) rfl hP hD0 hP1 hD1 hk1
    have ek : k = 0 := by
      rcases hk0 with ⟨_, z⟩ | ⟨j, hj, z, _⟩
      · exact z
      · obtain rfl | rfl : j = 0 ∨ j = 1 := by omega
        all_goals cases hE.symm.trans z
    subst ek
    refine lv_if_eq (tgt := 19) hx hb dL_action_12 (by decide) (fun c0 => ?_) (fun c0 => ?_)
    · refine lv_lconst (v := 0) hx hb dL_action_19 rfl ?_
      refine va_last hx hb hKL hP hD hS 24 0 rfl rfl in01 dL_action_20 (fun H locs hP hD hS => ?_)
      have hP : va_P (dC, dI) vwCl (LW A cI cQ cL u o (vp_updL f (0 : Int32).toNatClampNeg 0)) H := hP
      have hD : va_D (va_A (LW A cI cQ cL σ o f) s.heap.size) (LW A cI cQ cL u o (vp_updL f (0 : Int32).toNatClampNeg 0)) := hD
      refine lv_goto (tgt := 32) hx hb dL_action_21 (by decide) ?_
      refine lv_iconst (v := 0) hx hb dL_action_32 (by decide) ?_
      exact vx_ret (W.iret hx hb hr (fun t ht hW => ⟨⟨_, (u, vp_updL f (0 : Int32).toNatClampNeg 0), rfl, ⟨rfl, hpx, fun _ => (updL_0 f _).trans (show (0 : Int64) = lb r by unfold lb; rw [if_pos c0])⟩, by rw [ht]; exact hP, hD⟩, hS.F ht⟩) hS.2.2 dL_action_33)
    · refine lv_lconst (v := 1) hx hb dL_action_15 rfl ?_
      refine lv_goto (tgt := 20) hx hb dL_action_16 (by decide) ?_
      refine va_last hx hb hKL hP hD hS 24 0 rfl rfl in01 dL_action_20 (fun H locs hP hD hS => ?_)
      have hP : va_P (dC, dI) vwCl (LW A cI cQ cL u o (vp_updL f (0 : Int32).toNatClampNeg 1)) H := hP
      have hD : va_D (va_A (LW A cI cQ cL σ o f) s.heap.size) (LW A cI cQ cL u o (vp_updL f (0 : Int32).toNatClampNeg 1)) := hD
      refine lv_goto (tgt := 32) hx hb dL_action_21 (by decide) ?_
      refine lv_iconst (v := 0) hx hb dL_action_32 (by decide) ?_
      exact vx_ret (W.iret hx hb hr (fun t ht hW => ⟨⟨_, (u, vp_updL f (0 : Int32).toNatClampNeg 1), rfl, ⟨rfl, hpx, fun _ => (updL_0 f _).trans (show (1 : Int64) = lb r by unfold lb; rw [if_neg c0])⟩, by rw [ht]; exact hP, hD⟩, hS.F ht⟩) hS.2.2 dL_action_33)
set_option maxHeartbeats 4000000 in
set_option maxRecDepth 100000 in
/-- effect -/
theorem w_effect (l : Launch) (dC : Nat → ClassId) (dI : Nat → Nat → Nat) (A : Nat → Nat) (cI cQ cL : ClassId) (σ : HS) (x : Int32) (f0 : Int32) (mk1 : Bool) (mm : Int32) (vv : Int32) (o : Nat) (f : Nat → Int64) (sz : Nat) {oE : Option String} {v k : Int32} {S : HS → Prop} (hC : CRes l dC dI A cI cQ σ yX3_effect wsX3_effect [.ref (A 0), .int x, .int f0, .int (b2i mk1), .int mm, .int vv] oE v S) (hk0 : (oE = none ∧ k = 0) ∨ ∃ j, j < 4 ∧ oE = ([nIO, nNS, nIA, nIS] : List String)[j]? ∧ k = nI (j + 1)) :
    Met l yL_effect wsL_effect RMw (va_Pc [.ref (A 0), .int x, .int f0, .int (b2i mk1), .int mm, .int vv, .ref o] (LF dC dI A cI cQ cL sz σ o f)) (va_Qi (fun (r : Int32) (u : HS × (Nat → Int64)) => r = k ∧ S u.1 ∧ (oE = none → u.2 0 = v.toInt64)) (LB dC dI A cI cQ cL o (va_A (LW A cI cQ cL σ o f) sz)) (va_A (LW A cI cQ cL σ o f) sz)) 1 6 (va_A (LW A cI cQ cL σ o f) sz) := by
  refine met_of (vx_ofWH (cc := cL_effect) (maxL := 8) (ret := some .int) (by decide) rfl ?_)
  intro p e s m args below meth c s₁ B hml hv
  obtain ⟨rfl, hsz, hP, hX, hKL, hD0, hH, hN⟩ := hv
  subst hsz
  have hx := B.exec
  have hb := B.bytes
  have hr := B.returns
  have hts := atoms_spec (ws := wsL_effect) B.pre
  have hown : s.vm.findClass RL = some m.cls := findClass_of_methodNamed B.named
  have htb := vx_table (x := yL_effect) B (hts _ List.mem_cons_self)
  have hK := hX.1
  have hPc := ap_P hP
  have hDc := ap_D hD0
  have hHc : HX (va_A (hfW A cI cQ σ) s.heap.size) s s.heap := hH.narrow fun q h => ap_A h
  have hFc : ∀ q, va_A (hfW A cI cQ σ) s.heap.size q → va_A (LW A cI cQ cL σ o f) s.heap.size q := fun q h => ap_A h
  have hS : va_S (va_A (LW A cI cQ cL σ o f) s.heap.size) s.heap s.heap [] := va_S.rf
  have hl := lv_entry ([.ref (A 0), .int x, .int f0, .int (b2i mk1), .int mm, .int vv, .ref o]) (n := 8) (Nat.le_of_ble_eq_true rfl)
  rw [lg_entry_eq]
  generalize (lg_sl ([.ref (A 0), .int x, .int f0, .int (b2i mk1), .int mm, .int vv, .ref o]) ++ List.replicate (8 - (lg_sl ([.ref (A 0), .int x, .int f0, .int (b2i mk1), .int mm, .int vv, .ref o])).length) Slot.unset).toArray = ls at hl ⊢
  have hl : lv_has ls 8 [(0, .ref (A 0)), (1, .int x), (2, .int f0), (3, .int (b2i mk1)), (4, .int mm), (5, .int vv), (6, .ref o)] := hl
  refine lv_aload hx hb dL_effect_0 (lv_at hl 6 rfl) ?_
  refine lv_iconst (v := 0) hx hb dL_effect_2 (by decide) ?_
  refine lv_aload_n hx hb dL_effect_3 rfl (lv_at hl 0 rfl) ?_
  refine lv_iload_n hx hb dL_effect_4 rfl (lv_at hl 1 rfl) ?_
  refine lv_iload_n hx hb dL_effect_5 rfl (lv_at hl 2 rfl) ?_
  refine lv_iload_n hx hb dL_effect_6 rfl (lv_at hl 3 rfl) ?_
  refine lv_iload hx hb dL_effect_7 (lv_at hl 4 rfl) ?_
  refine lv_iload hx hb dL_effect_9 (lv_at hl 5 rfl) ?_
  refine vx_calli (vx_runV (As := [.int x, .int f0, .int (b2i mk1), .int mm, .int vv]) (rest := [.int 0, .ref o]) ⟨hx, hb, hml, hown, hts⟩ (hC s.heap.size) (cwV 5 hts gL_effect_X3_effect rfl rfl rfl (by decide +kernel) ⟨Nat.le_of_ble_eq_true rfl, Nat.le_of_ble_eq_true rfl⟩) ⟨bl_FX, va_recv hK hPc (ci := 3) (q0 := 0) rfl rfl, fun U hU hW => ⟨rfl, ⟨by rw [hU], by rw [hU]; exact hPc, hX.warm hW, hDc⟩, by rw [hU]; exact HX.moved hW.alike hHc⟩⟩ rfl rfl hl.1 rfl (lv_room (Nat.le_of_ble_eq_true rfl)) dL_effect_11 ⟨Nat.le_of_ble_eq_true rfl, Nat.le_of_ble_eq_true rfl⟩) hS (fun q _ h => hFc q h) hFc (fun q _ h => hFc q h) ?_ ?_
  · intro E ce q9 u t H locs ht hvm hpx hBX hz1 hk1 hS hcell hcv hcl
    obtain ⟨hE, hP1, hD1⟩ := hBX
    rw [ht] at hP1
    obtain ⟨hP, hD⟩ := fr_L (r := [(o, .inl (cL, 1, .inr (.inl f)))]) rfl hP hD0 hP1 hD1 hk1
    rcases hk0 with ⟨z, -⟩ | ⟨j, hj, z, rfl⟩
    · exact absurd (hE.symm.trans z) (Option.some_ne_none E)
    · obtain rfl | rfl | rfl | rfl : j = 0 ∨ j = 1 ∨ j = 2 ∨ j = 3 := by omega
      · skip
        obtain rfl : E = nIO := Option.some.inj (hE.symm.trans z)
        refine vx_catch (own := RL) (name := nIO) hown [] ⟨0, 16, 19, 13⟩ [⟨0, 16, 23, 21⟩, ⟨0, 16, 27, 15⟩, ⟨0, 16, 31, 23⟩] htb (fun z hz => nomatch hz) rfl (by decide) (hts _ (List.mem_of_getElem? (i := 1) rfl)) (hX.xb _ _ (List.mem_of_getElem? (i := 13) rfl)) hcell hcv hcl ?_
        refine lv_astore (lv' := [(7, .ref q9), (0, .ref (A 0)), (1, .int x), (2, .int f0), (3, .int (b2i mk1)), (4, .int mm), (5, .int vv), (6, .ref o)]) hx hb dL_effect_19 hl (by decide) rfl (fun ls hl => ?_)
        refine lv_iconst (v := 1) hx hb dL_effect_21 (by decide) ?_
        exact vx_ret (W.iret hx hb hr (fun t ht hW => ⟨⟨_, (u, f), rfl, ⟨rfl, hpx, fun z2 => absurd (hE.symm.trans z2) (Option.some_ne_none _)⟩, by rw [ht]; exact hP, hD⟩, hS.F ht⟩) hS.2.2 dL_effect_22)
      · skip
        obtain rfl : E = nNS := Option.some.inj (hE.symm.trans z)
        refine vx_catch (own := RL) (name := nNS) hown [⟨0, 16, 19, 13⟩] ⟨0, 16, 23, 21⟩ [⟨0, 16, 27, 15⟩, ⟨0, 16, 31, 23⟩] htb (List.forall_mem_cons.mpr ⟨Or.inr ⟨by decide, nIO, hts _ (List.mem_of_getElem? (i := 1) rfl), hN nNS (by decide) nIO (by decide) (by decide)⟩, fun z hz => nomatch hz⟩) rfl (by decide) (hts _ (List.mem_of_getElem? (i := 2) rfl)) (hX.xb _ _ (List.mem_of_getElem? (i := 17) rfl)) hcell hcv hcl ?_
        refine lv_astore (lv' := [(7, .ref q9), (0, .ref (A 0)), (1, .int x), (2, .int f0), (3, .int (b2i mk1)), (4, .int mm), (5, .int vv), (6, .ref o)]) hx hb dL_effect_23 hl (by decide) rfl (fun ls hl => ?_)
        refine lv_iconst (v := 2) hx hb dL_effect_25 (by decide) ?_
        exact vx_ret (W.iret hx hb hr (fun t ht hW => ⟨⟨_, (u, f), rfl, ⟨rfl, hpx, fun z2 => absurd (hE.symm.trans z2) (Option.some_ne_none _)⟩, by rw [ht]; exact hP, hD⟩, hS.F ht⟩) hS.2.2 dL_effect_26)
      · skip
        obtain rfl : E = nIA := Option.some.inj (hE.symm.trans z)
        refine vx_catch (own := RL) (name := nIA) hown [⟨0, 16, 19, 13⟩, ⟨0, 16, 23, 21⟩] ⟨0, 16, 27, 15⟩ [⟨0, 16, 31, 23⟩] htb (List.forall_mem_cons.mpr ⟨Or.inr ⟨by decide, nIO, hts _ (List.mem_of_getElem? (i := 1) rfl), hN nIA (by decide) nIO (by decide) (by decide)⟩, List.forall_mem_cons.mpr ⟨Or.inr ⟨by decide, nNS, hts _ (List.mem_of_getElem? (i := 2) rfl), hN nIA (by decide) nNS (by decide) (by decide)⟩, fun z hz => nomatch hz⟩⟩) rfl (by decide) (hts _ (List.mem_of_getElem? (i := 3) rfl)) (hX.xb _ _ (List.mem_of_getElem? (i := 14) rfl)) hcell hcv hcl ?_
        refine lv_astore (lv' := [(7, .ref q9), (0, .ref (A 0)), (1, .int x), (2, .int f0), (3, .int (b2i mk1)), (4, .int mm), (5, .int vv), (6, .ref o)]) hx hb dL_effect_27 hl (by decide) rfl (fun ls hl => ?_)
        refine lv_iconst (v := 3) hx hb dL_effect_29 (by decide) ?_
        exact vx_ret (W.iret hx hb hr (fun t ht hW => ⟨⟨_, (u, f), rfl, ⟨rfl, hpx, fun z2 => absurd (hE.symm.trans z2) (Option.some_ne_none _)⟩, by rw [ht]; exact hP, hD⟩, hS.F ht⟩) hS.2.2 dL_effect_30)
      · skip
        obtain rfl : E = nIS := Option.some.inj (hE.symm.trans z)
        refine vx_catch (own := RL) (name := nIS) hown [⟨0, 16, 19, 13⟩, ⟨0, 16, 23, 21⟩, ⟨0, 16, 27, 15⟩] ⟨0, 16, 31, 23⟩ [] htb (List.forall_mem_cons.mpr ⟨Or.inr ⟨by decide, nIO, hts _ (List.mem_of_getElem? (i := 1) rfl), hN nIS (by decide) nIO (by decide) (by decide)⟩, List.forall_mem_cons.mpr ⟨Or.inr ⟨by decide, nNS, hts _ (List.mem_of_getElem? (i := 2) rfl), hN nIS (by decide) nNS (by decide) (by decide)⟩, List.forall_mem_cons.mpr ⟨Or.inr ⟨by decide, nIA, hts _ (List.mem_of_getElem? (i := 3) rfl), hN nIS (by decide) nIA (by decide) (by decide)⟩, fun z hz => nomatch hz⟩⟩⟩) rfl (by decide) (hts _ (List.mem_of_getElem? (i := 4) rfl)) (hX.xb _ _ (List.mem_of_getElem? (i := 15) rfl)) hcell hcv hcl ?_
        refine lv_astore (lv' := [(7, .ref q9), (0, .ref (A 0)), (1, .int x), (2, .int f0), (3, .int (b2i mk1)), (4, .int mm), (5, .int vv), (6, .ref o)]) hx hb dL_effect_31 hl (by decide) rfl (fun ls hl => ?_)
        refine lv_iconst (v := 4) hx hb dL_effect_33 (by decide) ?_
        exact vx_ret (W.iret hx hb hr (fun t ht hW => ⟨⟨_, (u, f), rfl, ⟨rfl, hpx, fun z2 => absurd (hE.symm.trans z2) (Option.some_ne_none _)⟩, by rw [ht]; exact hP, hD⟩, hS.F ht⟩) hS.2.2 dL_effect_34)
  · intro r u t H locs ht hvm hw hB hz1 hk1 hS
    obtain ⟨hE, hrv, hpx⟩ := hw
    subst hrv
    obtain ⟨hP1, hD1⟩ := hB
    rw [ht] at hP1
    obtain ⟨hP, hD⟩ := fr_L (r := [(o, .inl (cL, 1, .inr (.inl f)))]) rfl hP hD0 hP1 hD1 hk1
    have ek : k = 0 := by
      rcases hk0 with ⟨_, z⟩ | ⟨j, hj, z, _⟩
      · exact z
      · obtain rfl | rfl | rfl | rfl : j = 0 ∨ j = 1 ∨ j = 2 ∨ j = 3 := by omega
        all_goals cases hE.symm.trans z
    subst ek
    refine lv_i2l (v := r.toInt64) hx hb dL_effect_14 rfl ?_
    refine va_last hx hb hKL hP hD hS 24 0 rfl rfl in01 dL_effect_15 (fun H locs hP hD hS => ?_)
    have hP : va_P (dC, dI) vwCl (LW A cI cQ cL u o (vp_updL f (0 : Int32).toNatClampNeg r.toInt64)) H := hP
    have hD : va_D (va_A (LW A cI cQ cL σ o f) s.heap.size) (LW A cI cQ cL u o (vp_updL f (0 : Int32).toNatClampNeg r.toInt64)) := hD
    refine lv_goto (tgt := 35) hx hb dL_effect_16 (by decide) ?_
    refine lv_iconst (v := 0) hx hb dL_effect_35 (by decide) ?_
    exact vx_ret (W.iret hx hb hr (fun t ht hW => ⟨⟨_, (u, vp_updL f (0 : Int32).toNatClampNeg r.toInt64), rfl, ⟨rfl, hpx, fun _ => (updL_0 f _).trans rfl⟩, by rw [ht]; exact hP, hD⟩, hS.F ht⟩) hS.2.2 dL_effect_36)
set_option maxHeartbeats 4000000 in
set_option maxRecDepth 100000 in
/-- clause -/
theorem w_clause (l : Launch) (dC : Nat → ClassId) (dI : Nat → Nat → Nat) (A : Nat → Nat) (cI cQ cL : ClassId) (σ : HS) (mm : Int32) (vv : Int32) (o : Nat) (f : Nat → Int64) (sz : Nat) {oE : Option String} {v k : Int32} {S : HS → Prop} (hC : CRes l dC dI A cI cQ σ yX3_clause wsX3_clause [.ref (A 0), .int mm, .int vv] oE v S) (hk0 : (oE = none ∧ k = 0) ∨ ∃ j, j < 2 ∧ oE = ([nIA, nIS] : List String)[j]? ∧ k = nI (j + 1)) :
    Met l yL_clause wsL_clause RMw (va_Pc [.ref (A 0), .int mm, .int vv, .ref o] (LF dC dI A cI cQ cL sz σ o f)) (va_Qi (fun (r : Int32) (u : HS × (Nat → Int64)) => r = k ∧ S u.1 ∧ (oE = none → u.2 0 = v.toInt64)) (LB dC dI A cI cQ cL o (va_A (LW A cI cQ cL σ o f) sz)) (va_A (LW A cI cQ cL σ o f) sz)) 1 6 (va_A (LW A cI cQ cL σ o f) sz) := by
  refine met_of (vx_ofWH (cc := cL_clause) (maxL := 5) (ret := some .int) (by decide) rfl ?_)
  intro p e s m args below meth c s₁ B hml hv
  obtain ⟨rfl, hsz, hP, hX, hKL, hD0, hH, hN⟩ := hv
  subst hsz
  have hx := B.exec
  have hb := B.bytes
  have hr := B.returns
  have hts := atoms_spec (ws := wsL_clause) B.pre
  have hown : s.vm.findClass RL = some m.cls := findClass_of_methodNamed B.named
  have htb := vx_table (x := yL_clause) B (hts _ List.mem_cons_self)
  have hK := hX.1
  have hPc := ap_P hP
  have hDc := ap_D hD0
  have hHc : HX (va_A (hfW A cI cQ σ) s.heap.size) s s.heap := hH.narrow fun q h => ap_A h
  have hFc : ∀ q, va_A (hfW A cI cQ σ) s.heap.size q → va_A (LW A cI cQ cL σ o f) s.heap.size q := fun q h => ap_A h
  have hS : va_S (va_A (LW A cI cQ cL σ o f) s.heap.size) s.heap s.heap [] := va_S.rf
  have hl := lv_entry ([.ref (A 0), .int mm, .int vv, .ref o]) (n := 5) (Nat.le_of_ble_eq_true rfl)
  rw [lg_entry_eq]
  generalize (lg_sl ([.ref (A 0), .int mm, .int vv, .ref o]) ++ List.replicate (5 - (lg_sl ([.ref (A 0), .int mm, .int vv, .ref o])).length) Slot.unset).toArray = ls at hl ⊢
  have hl : lv_has ls 5 [(0, .ref (A 0)), (1, .int mm), (2, .int vv), (3, .ref o)] := hl
  refine lv_aload_n hx hb dL_clause_0 rfl (lv_at hl 3 rfl) ?_
  refine lv_iconst (v := 0) hx hb dL_clause_1 (by decide) ?_
  refine lv_aload_n hx hb dL_clause_2 rfl (lv_at hl 0 rfl) ?_
  refine lv_iload_n hx hb dL_clause_3 rfl (lv_at hl 1 rfl) ?_
  refine lv_iload_n hx hb dL_clause_4 rfl (lv_at hl 2 rfl) ?_
  refine vx_calli (vx_runV (As := [.int mm, .int vv]) (rest := [.int 0, .ref o]) ⟨hx, hb, hml, hown, hts⟩ (hC s.heap.size) (cwV 2 hts gL_clause_X3_clause rfl rfl rfl (by decide +kernel) ⟨Nat.le_of_ble_eq_true rfl, Nat.le_of_ble_eq_true rfl⟩) ⟨bl_FX, va_recv hK hPc (ci := 3) (q0 := 0) rfl rfl, fun U hU hW => ⟨rfl, ⟨by rw [hU], by rw [hU]; exact hPc, hX.warm hW, hDc⟩, by rw [hU]; exact HX.moved hW.alike hHc⟩⟩ rfl rfl hl.1 rfl (lv_room (Nat.le_of_ble_eq_true rfl)) dL_clause_5 ⟨Nat.le_of_ble_eq_true rfl, Nat.le_of_ble_eq_true rfl⟩) hS (fun q _ h => hFc q h) hFc (fun q _ h => hFc q h) ?_ ?_
  · intro E ce q9 u t H locs ht hvm hpx hBX hz1 hk1 hS hcell hcv hcl
    obtain ⟨hE, hP1, hD1⟩ := hBX
    rw [ht] at hP1
    obtain ⟨hP, hD⟩ := fr_L (r := [(o, .inl (cL, 1, .inr (.inl f)))]) rfl hP hD0 hP1 hD1 hk1
    rcases hk0 with ⟨z, -⟩ | ⟨j, hj, z, rfl⟩
    · exact absurd (hE.symm.trans z) (Option.some_ne_none E)
    · obtain rfl | rfl : j = 0 ∨ j = 1 := by omega
      · skip
        obtain rfl : E = nIA := Option.some.inj (hE.symm.trans z)
        refine vx_catch (own := RL) (name := nIA) hown [] ⟨0, 10, 13, 15⟩ [⟨0, 10, 17, 23⟩] htb (fun z hz => nomatch hz) rfl (by decide) (hts _ (List.mem_of_getElem? (i := 1) rfl)) (hX.xb _ _ (List.mem_of_getElem? (i := 14) rfl)) hcell hcv hcl ?_
        refine lv_astore (lv' := [(4, .ref q9), (0, .ref (A 0)), (1, .int mm), (2, .int vv), (3, .ref o)]) hx hb dL_clause_13 hl (by decide) rfl (fun ls hl => ?_)
        refine lv_iconst (v := 1) hx hb dL_clause_15 (by decide) ?_
        exact vx_ret (W.iret hx hb hr (fun t ht hW => ⟨⟨_, (u, f), rfl, ⟨rfl, hpx, fun z2 => absurd (hE.symm.trans z2) (Option.some_ne_none _)⟩, by rw [ht]; exact hP, hD⟩, hS.F ht⟩) hS.2.2 dL_clause_16)
      · skip
        obtain rfl : E = nIS := Option.some.inj (hE.symm.trans z)
        refine vx_catch (own := RL) (name := nIS) hown [⟨0, 10, 13, 15⟩] ⟨0, 10, 17, 23⟩ [] htb (List.forall_mem_cons.mpr ⟨Or.inr ⟨by decide, nIA, hts _ (List.mem_of_getElem? (i := 1) rfl), hN nIS (by decide) nIA (by decide) (by decide)⟩, fun z hz => nomatch hz⟩) rfl (by decide) (hts _ (List.mem_of_getElem? (i := 2) rfl)) (hX.xb _ _ (List.mem_of_getElem? (i := 15) rfl)) hcell hcv hcl ?_
        refine lv_astore (lv' := [(4, .ref q9), (0, .ref (A 0)), (1, .int mm), (2, .int vv), (3, .ref o)]) hx hb dL_clause_17 hl (by decide) rfl (fun ls hl => ?_)
        refine lv_iconst (v := 2) hx hb dL_clause_19 (by decide) ?_
        exact vx_ret (W.iret hx hb hr (fun t ht hW => ⟨⟨_, (u, f), rfl, ⟨rfl, hpx, fun z2 => absurd (hE.symm.trans z2) (Option.some_ne_none _)⟩, by rw [ht]; exact hP, hD⟩, hS.F ht⟩) hS.2.2 dL_clause_20)
  · intro r u t H locs ht hvm hw hB hz1 hk1 hS
    obtain ⟨hE, hrv, hpx⟩ := hw
    subst hrv
    obtain ⟨hP1, hD1⟩ := hB
    rw [ht] at hP1
    obtain ⟨hP, hD⟩ := fr_L (r := [(o, .inl (cL, 1, .inr (.inl f)))]) rfl hP hD0 hP1 hD1 hk1
    have ek : k = 0 := by
      rcases hk0 with ⟨_, z⟩ | ⟨j, hj, z, _⟩
      · exact z
      · obtain rfl | rfl : j = 0 ∨ j = 1 := by omega
        all_goals cases hE.symm.trans z
    subst ek
    refine lv_i2l (v := r.toInt64) hx hb dL_clause_8 rfl ?_
    refine va_last hx hb hKL hP hD hS 24 0 rfl rfl in01 dL_clause_9 (fun H locs hP hD hS => ?_)
    have hP : va_P (dC, dI) vwCl (LW A cI cQ cL u o (vp_updL f (0 : Int32).toNatClampNeg r.toInt64)) H := hP
    have hD : va_D (va_A (LW A cI cQ cL σ o f) s.heap.size) (LW A cI cQ cL u o (vp_updL f (0 : Int32).toNatClampNeg r.toInt64)) := hD
    refine lv_goto (tgt := 21) hx hb dL_clause_10 (by decide) ?_
    refine lv_iconst (v := 0) hx hb dL_clause_21 (by decide) ?_
    exact vx_ret (W.iret hx hb hr (fun t ht hW => ⟨⟨_, (u, vp_updL f (0 : Int32).toNatClampNeg r.toInt64), rfl, ⟨rfl, hpx, fun _ => (updL_0 f _).trans rfl⟩, by rw [ht]; exact hP, hD⟩, hS.F ht⟩) hS.2.2 dL_clause_22)
set_option maxHeartbeats 4000000 in
set_option maxRecDepth 100000 in
/-- goal -/
theorem w_goal (l : Launch) (dC : Nat → ClassId) (dI : Nat → Nat → Nat) (A : Nat → Nat) (cI cQ cL : ClassId) (σ : HS) (mm : Int32) (vv : Int32) (o : Nat) (f : Nat → Int64) (sz : Nat) {oE : Option String} {v k : Int32} {S : HS → Prop} (hC : CRes l dC dI A cI cQ σ yX3_goal wsX3_goal [.ref (A 0), .int mm, .int vv] oE v S) (hk0 : (oE = none ∧ k = 0) ∨ ∃ j, j < 1 ∧ oE = ([nIA] : List String)[j]? ∧ k = nI (j + 1)) :
    Met l yL_goal wsL_goal RMw (va_Pc [.ref (A 0), .int mm, .int vv, .ref o] (LF dC dI A cI cQ cL sz σ o f)) (va_Qi (fun (r : Int32) (u : HS × (Nat → Int64)) => r = k ∧ S u.1 ∧ (oE = none → u.2 0 = v.toInt64)) (LB dC dI A cI cQ cL o (va_A (LW A cI cQ cL σ o f) sz)) (va_A (LW A cI cQ cL σ o f) sz)) 1 6 (va_A (LW A cI cQ cL σ o f) sz) := by
  refine met_of (vx_ofWH (cc := cL_goal) (maxL := 5) (ret := some .int) (by decide) rfl ?_)
  intro p e s m args below meth c s₁ B hml hv
  obtain ⟨rfl, hsz, hP, hX, hKL, hD0, hH, hN⟩ := hv
  subst hsz
  have hx := B.exec
  have hb := B.bytes
  have hr := B.returns
  have hts := atoms_spec (ws := wsL_goal) B.pre
  have hown : s.vm.findClass RL = some m.cls := findClass_of_methodNamed B.named
  have htb := vx_table (x := yL_goal) B (hts _ List.mem_cons_self)
  have hK := hX.1
  have hPc := ap_P hP
  have hDc := ap_D hD0
  have hHc : HX (va_A (hfW A cI cQ σ) s.heap.size) s s.heap := hH.narrow fun q h => ap_A h
  have hFc : ∀ q, va_A (hfW A cI cQ σ) s.heap.size q → va_A (LW A cI cQ cL σ o f) s.heap.size q := fun q h => ap_A h
  have hS : va_S (va_A (LW A cI cQ cL σ o f) s.heap.size) s.heap s.heap [] := va_S.rf
  have hl := lv_entry ([.ref (A 0), .int mm, .int vv, .ref o]) (n := 5) (Nat.le_of_ble_eq_true rfl)
  rw [lg_entry_eq]
  generalize (lg_sl ([.ref (A 0), .int mm, .int vv, .ref o]) ++ List.replicate (5 - (lg_sl ([.ref (A 0), .int mm, .int vv, .ref o])).length) Slot.unset).toArray = ls at hl ⊢
  have hl : lv_has ls 5 [(0, .ref (A 0)), (1, .int mm), (2, .int vv), (3, .ref o)] := hl
  refine lv_aload_n hx hb dL_goal_0 rfl (lv_at hl 3 rfl) ?_
  refine lv_iconst (v := 0) hx hb dL_goal_1 (by decide) ?_
  refine lv_aload_n hx hb dL_goal_2 rfl (lv_at hl 0 rfl) ?_
  refine lv_iload_n hx hb dL_goal_3 rfl (lv_at hl 1 rfl) ?_
  refine lv_iload_n hx hb dL_goal_4 rfl (lv_at hl 2 rfl) ?_
  refine vx_calli (vx_runV (As := [.int mm, .int vv]) (rest := [.int 0, .ref o]) ⟨hx, hb, hml, hown, hts⟩ (hC s.heap.size) (cwV 2 hts gL_goal_X3_goal rfl rfl rfl (by decide +kernel) ⟨Nat.le_of_ble_eq_true rfl, Nat.le_of_ble_eq_true rfl⟩) ⟨bl_FX, va_recv hK hPc (ci := 3) (q0 := 0) rfl rfl, fun U hU hW => ⟨rfl, ⟨by rw [hU], by rw [hU]; exact hPc, hX.warm hW, hDc⟩, by rw [hU]; exact HX.moved hW.alike hHc⟩⟩ rfl rfl hl.1 rfl (lv_room (Nat.le_of_ble_eq_true rfl)) dL_goal_5 ⟨Nat.le_of_ble_eq_true rfl, Nat.le_of_ble_eq_true rfl⟩) hS (fun q _ h => hFc q h) hFc (fun q _ h => hFc q h) ?_ ?_
  · intro E ce q9 u t H locs ht hvm hpx hBX hz1 hk1 hS hcell hcv hcl
    obtain ⟨hE, hP1, hD1⟩ := hBX
    rw [ht] at hP1
    obtain ⟨hP, hD⟩ := fr_L (r := [(o, .inl (cL, 1, .inr (.inl f)))]) rfl hP hD0 hP1 hD1 hk1
    rcases hk0 with ⟨z, -⟩ | ⟨j, hj, z, rfl⟩
    · exact absurd (hE.symm.trans z) (Option.some_ne_none E)
    · obtain rfl : j = 0 := by omega
      obtain rfl : E = nIA := Option.some.inj (hE.symm.trans z)
      refine vx_catch (own := RL) (name := nIA) hown [] ⟨0, 10, 13, 15⟩ [] htb (fun z hz => nomatch hz) rfl (by decide) (hts _ (List.mem_of_getElem? (i := 1) rfl)) (hX.xb _ _ (List.mem_of_getElem? (i := 14) rfl)) hcell hcv hcl ?_
      refine lv_astore (lv' := [(4, .ref q9), (0, .ref (A 0)), (1, .int mm), (2, .int vv), (3, .ref o)]) hx hb dL_goal_13 hl (by decide) rfl (fun ls hl => ?_)
      refine lv_iconst (v := 1) hx hb dL_goal_15 (by decide) ?_
      exact vx_ret (W.iret hx hb hr (fun t ht hW => ⟨⟨_, (u, f), rfl, ⟨rfl, hpx, fun z2 => absurd (hE.symm.trans z2) (Option.some_ne_none _)⟩, by rw [ht]; exact hP, hD⟩, hS.F ht⟩) hS.2.2 dL_goal_16)
  · intro r u t H locs ht hvm hw hB hz1 hk1 hS
    obtain ⟨hE, hrv, hpx⟩ := hw
    subst hrv
    obtain ⟨hP1, hD1⟩ := hB
    rw [ht] at hP1
    obtain ⟨hP, hD⟩ := fr_L (r := [(o, .inl (cL, 1, .inr (.inl f)))]) rfl hP hD0 hP1 hD1 hk1
    have ek : k = 0 := by
      rcases hk0 with ⟨_, z⟩ | ⟨j, hj, z, _⟩
      · exact z
      · obtain rfl : j = 0 := by omega
        cases hE.symm.trans z
    subst ek
    refine lv_i2l (v := r.toInt64) hx hb dL_goal_8 rfl ?_
    refine va_last hx hb hKL hP hD hS 24 0 rfl rfl in01 dL_goal_9 (fun H locs hP hD hS => ?_)
    have hP : va_P (dC, dI) vwCl (LW A cI cQ cL u o (vp_updL f (0 : Int32).toNatClampNeg r.toInt64)) H := hP
    have hD : va_D (va_A (LW A cI cQ cL σ o f) s.heap.size) (LW A cI cQ cL u o (vp_updL f (0 : Int32).toNatClampNeg r.toInt64)) := hD
    refine lv_goto (tgt := 17) hx hb dL_goal_10 (by decide) ?_
    refine lv_iconst (v := 0) hx hb dL_goal_17 (by decide) ?_
    exact vx_ret (W.iret hx hb hr (fun t ht hW => ⟨⟨_, (u, vp_updL f (0 : Int32).toNatClampNeg r.toInt64), rfl, ⟨rfl, hpx, fun _ => (updL_0 f _).trans rfl⟩, by rw [ht]; exact hP, hD⟩, hS.F ht⟩) hS.2.2 dL_goal_18)
set_option maxHeartbeats 4000000 in
set_option maxRecDepth 100000 in
/-- behind -/
theorem w_behind (l : Launch) (dC : Nat → ClassId) (dI : Nat → Nat → Nat) (A : Nat → Nat) (cI cQ cL : ClassId) (σ : HS) (x : Int32) (b : Int32) (o : Nat) (f : Nat → Int64) (sz : Nat) {oE : Option String} {v k : Int32} {S : HS → Prop} (hC : CRes l dC dI A cI cQ σ yX3_behind wsX3_behind [.ref (A 0), .int x, .int b] oE v S) (hk0 : (oE = none ∧ k = 0) ∨ ∃ j, j < 4 ∧ oE = ([nIO, nNS, nIA, nUO] : List String)[j]? ∧ k = nI (j + 1)) :
    Met l yL_behind wsL_behind RMw (va_Pc [.ref (A 0), .int x, .int b, .ref o] (LF dC dI A cI cQ cL sz σ o f)) (va_Qi (fun (r : Int32) (u : HS × (Nat → Int64)) => r = k ∧ S u.1 ∧ (oE = none → u.2 0 = v.toInt64)) (LB dC dI A cI cQ cL o (va_A (LW A cI cQ cL σ o f) sz)) (va_A (LW A cI cQ cL σ o f) sz)) 1 6 (va_A (LW A cI cQ cL σ o f) sz) := by
  refine met_of (vx_ofWH (cc := cL_behind) (maxL := 5) (ret := some .int) (by decide) rfl ?_)
  intro p e s m args below meth c s₁ B hml hv
  obtain ⟨rfl, hsz, hP, hX, hKL, hD0, hH, hN⟩ := hv
  subst hsz
  have hx := B.exec
  have hb := B.bytes
  have hr := B.returns
  have hts := atoms_spec (ws := wsL_behind) B.pre
  have hown : s.vm.findClass RL = some m.cls := findClass_of_methodNamed B.named
  have htb := vx_table (x := yL_behind) B (hts _ List.mem_cons_self)
  have hK := hX.1
  have hPc := ap_P hP
  have hDc := ap_D hD0
  have hHc : HX (va_A (hfW A cI cQ σ) s.heap.size) s s.heap := hH.narrow fun q h => ap_A h
  have hFc : ∀ q, va_A (hfW A cI cQ σ) s.heap.size q → va_A (LW A cI cQ cL σ o f) s.heap.size q := fun q h => ap_A h
  have hS : va_S (va_A (LW A cI cQ cL σ o f) s.heap.size) s.heap s.heap [] := va_S.rf
  have hl := lv_entry ([.ref (A 0), .int x, .int b, .ref o]) (n := 5) (Nat.le_of_ble_eq_true rfl)
  rw [lg_entry_eq]
  generalize (lg_sl ([.ref (A 0), .int x, .int b, .ref o]) ++ List.replicate (5 - (lg_sl ([.ref (A 0), .int x, .int b, .ref o])).length) Slot.unset).toArray = ls at hl ⊢
  have hl : lv_has ls 5 [(0, .ref (A 0)), (1, .int x), (2, .int b), (3, .ref o)] := hl
  refine lv_aload_n hx hb dL_behind_0 rfl (lv_at hl 3 rfl) ?_
  refine lv_iconst (v := 0) hx hb dL_behind_1 (by decide) ?_
  refine lv_aload_n hx hb dL_behind_2 rfl (lv_at hl 0 rfl) ?_
  refine lv_iload_n hx hb dL_behind_3 rfl (lv_at hl 1 rfl) ?_
  refine lv_iload_n hx hb dL_behind_4 rfl (lv_at hl 2 rfl) ?_
  refine vx_calli (vx_runV (As := [.int x, .int b]) (rest := [.int 0, .ref o]) ⟨hx, hb, hml, hown, hts⟩ (hC s.heap.size) (cwV 2 hts gL_behind_X3_behind rfl rfl rfl (by decide +kernel) ⟨Nat.le_of_ble_eq_true rfl, Nat.le_of_ble_eq_true rfl⟩) ⟨bl_FX, va_recv hK hPc (ci := 3) (q0 := 0) rfl rfl, fun U hU hW => ⟨rfl, ⟨by rw [hU], by rw [hU]; exact hPc, hX.warm hW, hDc⟩, by rw [hU]; exact HX.moved hW.alike hHc⟩⟩ rfl rfl hl.1 rfl (lv_room (Nat.le_of_ble_eq_true rfl)) dL_behind_5 ⟨Nat.le_of_ble_eq_true rfl, Nat.le_of_ble_eq_true rfl⟩) hS (fun q _ h => hFc q h) hFc (fun q _ h => hFc q h) ?_ ?_
  · intro E ce q9 u t H locs ht hvm hpx hBX hz1 hk1 hS hcell hcv hcl
    obtain ⟨hE, hP1, hD1⟩ := hBX
    rw [ht] at hP1
    obtain ⟨hP, hD⟩ := fr_L (r := [(o, .inl (cL, 1, .inr (.inl f)))]) rfl hP hD0 hP1 hD1 hk1
    rcases hk0 with ⟨z, -⟩ | ⟨j, hj, z, rfl⟩
    · exact absurd (hE.symm.trans z) (Option.some_ne_none E)
    · obtain rfl | rfl | rfl | rfl : j = 0 ∨ j = 1 ∨ j = 2 ∨ j = 3 := by omega
      · skip
        obtain rfl : E = nIO := Option.some.inj (hE.symm.trans z)
        refine vx_catch (own := RL) (name := nIO) hown [] ⟨0, 10, 13, 13⟩ [⟨0, 10, 17, 21⟩, ⟨0, 10, 21, 15⟩, ⟨0, 10, 25, 35⟩] htb (fun z hz => nomatch hz) rfl (by decide) (hts _ (List.mem_of_getElem? (i := 1) rfl)) (hX.xb _ _ (List.mem_of_getElem? (i := 13) rfl)) hcell hcv hcl ?_
        refine lv_astore (lv' := [(4, .ref q9), (0, .ref (A 0)), (1, .int x), (2, .int b), (3, .ref o)]) hx hb dL_behind_13 hl (by decide) rfl (fun ls hl => ?_)
        refine lv_iconst (v := 1) hx hb dL_behind_15 (by decide) ?_
        exact vx_ret (W.iret hx hb hr (fun t ht hW => ⟨⟨_, (u, f), rfl, ⟨rfl, hpx, fun z2 => absurd (hE.symm.trans z2) (Option.some_ne_none _)⟩, by rw [ht]; exact hP, hD⟩, hS.F ht⟩) hS.2.2 dL_behind_16)
      · skip
        obtain rfl : E = nNS := Option.some.inj (hE.symm.trans z)
        refine vx_catch (own := RL) (name := nNS) hown [⟨0, 10, 13, 13⟩] ⟨0, 10, 17, 21⟩ [⟨0, 10, 21, 15⟩, ⟨0, 10, 25, 35⟩] htb (List.forall_mem_cons.mpr ⟨Or.inr ⟨by decide, nIO, hts _ (List.mem_of_getElem? (i := 1) rfl), hN nNS (by decide) nIO (by decide) (by decide)⟩, fun z hz => nomatch hz⟩) rfl (by decide) (hts _ (List.mem_of_getElem? (i := 2) rfl)) (hX.xb _ _ (List.mem_of_getElem? (i := 17) rfl)) hcell hcv hcl ?_
        refine lv_astore (lv' := [(4, .ref q9), (0, .ref (A 0)), (1, .int x), (2, .int b), (3, .ref o)]) hx hb dL_behind_17 hl (by decide) rfl (fun ls hl => ?_)
        refine lv_iconst (v := 2) hx hb dL_behind_19 (by decide) ?_
        exact vx_ret (W.iret hx hb hr (fun t ht hW => ⟨⟨_, (u, f), rfl, ⟨rfl, hpx, fun z2 => absurd (hE.symm.trans z2) (Option.some_ne_none _)⟩, by rw [ht]; exact hP, hD⟩, hS.F ht⟩) hS.2.2 dL_behind_20)
      · skip
        obtain rfl : E = nIA := Option.some.inj (hE.symm.trans z)
        refine vx_catch (own := RL) (name := nIA) hown [⟨0, 10, 13, 13⟩, ⟨0, 10, 17, 21⟩] ⟨0, 10, 21, 15⟩ [⟨0, 10, 25, 35⟩] htb (List.forall_mem_cons.mpr ⟨Or.inr ⟨by decide, nIO, hts _ (List.mem_of_getElem? (i := 1) rfl), hN nIA (by decide) nIO (by decide) (by decide)⟩, List.forall_mem_cons.mpr ⟨Or.inr ⟨by decide, nNS, hts _ (List.mem_of_getElem? (i := 2) rfl), hN nIA (by decide) nNS (by decide) (by decide)⟩, fun z hz => nomatch hz⟩⟩) rfl (by decide) (hts _ (List.mem_of_getElem? (i := 3) rfl)) (hX.xb _ _ (List.mem_of_getElem? (i := 14) rfl)) hcell hcv hcl ?_
        refine lv_astore (lv' := [(4, .ref q9), (0, .ref (A 0)), (1, .int x), (2, .int b), (3, .ref o)]) hx hb dL_behind_21 hl (by decide) rfl (fun ls hl => ?_)
        refine lv_iconst (v := 3) hx hb dL_behind_23 (by decide) ?_
        exact vx_ret (W.iret hx hb hr (fun t ht hW => ⟨⟨_, (u, f), rfl, ⟨rfl, hpx, fun z2 => absurd (hE.symm.trans z2) (Option.some_ne_none _)⟩, by rw [ht]; exact hP, hD⟩, hS.F ht⟩) hS.2.2 dL_behind_24)
      · skip
        obtain rfl : E = nUO := Option.some.inj (hE.symm.trans z)
        refine vx_catch (own := RL) (name := nUO) hown [⟨0, 10, 13, 13⟩, ⟨0, 10, 17, 21⟩, ⟨0, 10, 21, 15⟩] ⟨0, 10, 25, 35⟩ [] htb (List.forall_mem_cons.mpr ⟨Or.inr ⟨by decide, nIO, hts _ (List.mem_of_getElem? (i := 1) rfl), hN nUO (by decide) nIO (by decide) (by decide)⟩, List.forall_mem_cons.mpr ⟨Or.inr ⟨by decide, nNS, hts _ (List.mem_of_getElem? (i := 2) rfl), hN nUO (by decide) nNS (by decide) (by decide)⟩, List.forall_mem_cons.mpr ⟨Or.inr ⟨by decide, nIA, hts _ (List.mem_of_getElem? (i := 3) rfl), hN nUO (by decide) nIA (by decide) (by decide)⟩, fun z hz => nomatch hz⟩⟩⟩) rfl (by decide) (hts _ (List.mem_of_getElem? (i := 4) rfl)) (hX.xb _ _ (List.mem_of_getElem? (i := 16) rfl)) hcell hcv hcl ?_
        refine lv_astore (lv' := [(4, .ref q9), (0, .ref (A 0)), (1, .int x), (2, .int b), (3, .ref o)]) hx hb dL_behind_25 hl (by decide) rfl (fun ls hl => ?_)
        refine lv_iconst (v := 4) hx hb dL_behind_27 (by decide) ?_
        exact vx_ret (W.iret hx hb hr (fun t ht hW => ⟨⟨_, (u, f), rfl, ⟨rfl, hpx, fun z2 => absurd (hE.symm.trans z2) (Option.some_ne_none _)⟩, by rw [ht]; exact hP, hD⟩, hS.F ht⟩) hS.2.2 dL_behind_28)
  · intro r u t H locs ht hvm hw hB hz1 hk1 hS
    obtain ⟨hE, hrv, hpx⟩ := hw
    subst hrv
    obtain ⟨hP1, hD1⟩ := hB
    rw [ht] at hP1
    obtain ⟨hP, hD⟩ := fr_L (r := [(o, .inl (cL, 1, .inr (.inl f)))]) rfl hP hD0 hP1 hD1 hk1
    have ek : k = 0 := by
      rcases hk0 with ⟨_, z⟩ | ⟨j, hj, z, _⟩
      · exact z
      · obtain rfl | rfl | rfl | rfl : j = 0 ∨ j = 1 ∨ j = 2 ∨ j = 3 := by omega
        all_goals cases hE.symm.trans z
    subst ek
    refine lv_i2l (v := r.toInt64) hx hb dL_behind_8 rfl ?_
    refine va_last hx hb hKL hP hD hS 24 0 rfl rfl in01 dL_behind_9 (fun H locs hP hD hS => ?_)
    have hP : va_P (dC, dI) vwCl (LW A cI cQ cL u o (vp_updL f (0 : Int32).toNatClampNeg r.toInt64)) H := hP
    have hD : va_D (va_A (LW A cI cQ cL σ o f) s.heap.size) (LW A cI cQ cL u o (vp_updL f (0 : Int32).toNatClampNeg r.toInt64)) := hD
    refine lv_goto (tgt := 29) hx hb dL_behind_10 (by decide) ?_
    refine lv_iconst (v := 0) hx hb dL_behind_29 (by decide) ?_
    exact vx_ret (W.iret hx hb hr (fun t ht hW => ⟨⟨_, (u, vp_updL f (0 : Int32).toNatClampNeg r.toInt64), rfl, ⟨rfl, hpx, fun _ => (updL_0 f _).trans rfl⟩, by rw [ht]; exact hP, hD⟩, hS.F ht⟩) hS.2.2 dL_behind_30)
set_option maxHeartbeats 4000000 in
set_option maxRecDepth 100000 in
/-- least -/
theorem w_least (l : Launch) (dC : Nat → ClassId) (dI : Nat → Nat → Nat) (A : Nat → Nat) (cI cQ cL : ClassId) (σ : HS) (b : Int32) (x : Int32) (o : Nat) (f : Nat → Int64) (sz : Nat) {oE : Option String} {v k : Int32} {S : HS → Prop} (hC : CRes l dC dI A cI cQ σ yX3_least wsX3_least [.ref (A 0), .int b, .int x] oE v S) (hk0 : (oE = none ∧ k = 0) ∨ ∃ j, j < 2 ∧ oE = ([nIA, nNS] : List String)[j]? ∧ k = nI (j + 1)) :
    Met l yL_least wsL_least RMw (va_Pc [.ref (A 0), .int b, .int x, .ref o] (LF dC dI A cI cQ cL sz σ o f)) (va_Qi (fun (r : Int32) (u : HS × (Nat → Int64)) => r = k ∧ S u.1 ∧ (oE = none → u.2 0 = v.toInt64)) (LB dC dI A cI cQ cL o (va_A (LW A cI cQ cL σ o f) sz)) (va_A (LW A cI cQ cL σ o f) sz)) 1 6 (va_A (LW A cI cQ cL σ o f) sz) := by
  refine met_of (vx_ofWH (cc := cL_least) (maxL := 5) (ret := some .int) (by decide) rfl ?_)
  intro p e s m args below meth c s₁ B hml hv
  obtain ⟨rfl, hsz, hP, hX, hKL, hD0, hH, hN⟩ := hv
  subst hsz
  have hx := B.exec
  have hb := B.bytes
  have hr := B.returns
  have hts := atoms_spec (ws := wsL_least) B.pre
  have hown : s.vm.findClass RL = some m.cls := findClass_of_methodNamed B.named
  have htb := vx_table (x := yL_least) B (hts _ List.mem_cons_self)
  have hK := hX.1
  have hPc := ap_P hP
  have hDc := ap_D hD0
  have hHc : HX (va_A (hfW A cI cQ σ) s.heap.size) s s.heap := hH.narrow fun q h => ap_A h
  have hFc : ∀ q, va_A (hfW A cI cQ σ) s.heap.size q → va_A (LW A cI cQ cL σ o f) s.heap.size q := fun q h => ap_A h
  have hS : va_S (va_A (LW A cI cQ cL σ o f) s.heap.size) s.heap s.heap [] := va_S.rf
  have hl := lv_entry ([.ref (A 0), .int b, .int x, .ref o]) (n := 5) (Nat.le_of_ble_eq_true rfl)
  rw [lg_entry_eq]
  generalize (lg_sl ([.ref (A 0), .int b, .int x, .ref o]) ++ List.replicate (5 - (lg_sl ([.ref (A 0), .int b, .int x, .ref o])).length) Slot.unset).toArray = ls at hl ⊢
  have hl : lv_has ls 5 [(0, .ref (A 0)), (1, .int b), (2, .int x), (3, .ref o)] := hl
  refine lv_aload_n hx hb dL_least_0 rfl (lv_at hl 3 rfl) ?_
  refine lv_iconst (v := 0) hx hb dL_least_1 (by decide) ?_
  refine lv_aload_n hx hb dL_least_2 rfl (lv_at hl 0 rfl) ?_
  refine lv_iload_n hx hb dL_least_3 rfl (lv_at hl 1 rfl) ?_
  refine lv_iload_n hx hb dL_least_4 rfl (lv_at hl 2 rfl) ?_
  refine vx_calli (vx_runV (As := [.int b, .int x]) (rest := [.int 0, .ref o]) ⟨hx, hb, hml, hown, hts⟩ (hC s.heap.size) (cwV 2 hts gL_least_X3_least rfl rfl rfl (by decide +kernel) ⟨Nat.le_of_ble_eq_true rfl, Nat.le_of_ble_eq_true rfl⟩) ⟨bl_FX, va_recv hK hPc (ci := 3) (q0 := 0) rfl rfl, fun U hU hW => ⟨rfl, ⟨by rw [hU], by rw [hU]; exact hPc, hX.warm hW, hDc⟩, by rw [hU]; exact HX.moved hW.alike hHc⟩⟩ rfl rfl hl.1 rfl (lv_room (Nat.le_of_ble_eq_true rfl)) dL_least_5 ⟨Nat.le_of_ble_eq_true rfl, Nat.le_of_ble_eq_true rfl⟩) hS (fun q _ h => hFc q h) hFc (fun q _ h => hFc q h) ?_ ?_
  · intro E ce q9 u t H locs ht hvm hpx hBX hz1 hk1 hS hcell hcv hcl
    obtain ⟨hE, hP1, hD1⟩ := hBX
    rw [ht] at hP1
    obtain ⟨hP, hD⟩ := fr_L (r := [(o, .inl (cL, 1, .inr (.inl f)))]) rfl hP hD0 hP1 hD1 hk1
    rcases hk0 with ⟨z, -⟩ | ⟨j, hj, z, rfl⟩
    · exact absurd (hE.symm.trans z) (Option.some_ne_none E)
    · obtain rfl | rfl : j = 0 ∨ j = 1 := by omega
      · skip
        obtain rfl : E = nIA := Option.some.inj (hE.symm.trans z)
        refine vx_catch (own := RL) (name := nIA) hown [] ⟨0, 10, 13, 15⟩ [⟨0, 10, 17, 21⟩] htb (fun z hz => nomatch hz) rfl (by decide) (hts _ (List.mem_of_getElem? (i := 1) rfl)) (hX.xb _ _ (List.mem_of_getElem? (i := 14) rfl)) hcell hcv hcl ?_
        refine lv_astore (lv' := [(4, .ref q9), (0, .ref (A 0)), (1, .int b), (2, .int x), (3, .ref o)]) hx hb dL_least_13 hl (by decide) rfl (fun ls hl => ?_)
        refine lv_iconst (v := 1) hx hb dL_least_15 (by decide) ?_
        exact vx_ret (W.iret hx hb hr (fun t ht hW => ⟨⟨_, (u, f), rfl, ⟨rfl, hpx, fun z2 => absurd (hE.symm.trans z2) (Option.some_ne_none _)⟩, by rw [ht]; exact hP, hD⟩, hS.F ht⟩) hS.2.2 dL_least_16)
      · skip
        obtain rfl : E = nNS := Option.some.inj (hE.symm.trans z)
        refine vx_catch (own := RL) (name := nNS) hown [⟨0, 10, 13, 15⟩] ⟨0, 10, 17, 21⟩ [] htb (List.forall_mem_cons.mpr ⟨Or.inr ⟨by decide, nIA, hts _ (List.mem_of_getElem? (i := 1) rfl), hN nNS (by decide) nIA (by decide) (by decide)⟩, fun z hz => nomatch hz⟩) rfl (by decide) (hts _ (List.mem_of_getElem? (i := 2) rfl)) (hX.xb _ _ (List.mem_of_getElem? (i := 17) rfl)) hcell hcv hcl ?_
        refine lv_astore (lv' := [(4, .ref q9), (0, .ref (A 0)), (1, .int b), (2, .int x), (3, .ref o)]) hx hb dL_least_17 hl (by decide) rfl (fun ls hl => ?_)
        refine lv_iconst (v := 2) hx hb dL_least_19 (by decide) ?_
        exact vx_ret (W.iret hx hb hr (fun t ht hW => ⟨⟨_, (u, f), rfl, ⟨rfl, hpx, fun z2 => absurd (hE.symm.trans z2) (Option.some_ne_none _)⟩, by rw [ht]; exact hP, hD⟩, hS.F ht⟩) hS.2.2 dL_least_20)
  · intro r u t H locs ht hvm hw hB hz1 hk1 hS
    obtain ⟨hE, hrv, hpx⟩ := hw
    subst hrv
    obtain ⟨hP1, hD1⟩ := hB
    rw [ht] at hP1
    obtain ⟨hP, hD⟩ := fr_L (r := [(o, .inl (cL, 1, .inr (.inl f)))]) rfl hP hD0 hP1 hD1 hk1
    have ek : k = 0 := by
      rcases hk0 with ⟨_, z⟩ | ⟨j, hj, z, _⟩
      · exact z
      · obtain rfl | rfl : j = 0 ∨ j = 1 := by omega
        all_goals cases hE.symm.trans z
    subst ek
    refine lv_i2l (v := r.toInt64) hx hb dL_least_8 rfl ?_
    refine va_last hx hb hKL hP hD hS 24 0 rfl rfl in01 dL_least_9 (fun H locs hP hD hS => ?_)
    have hP : va_P (dC, dI) vwCl (LW A cI cQ cL u o (vp_updL f (0 : Int32).toNatClampNeg r.toInt64)) H := hP
    have hD : va_D (va_A (LW A cI cQ cL σ o f) s.heap.size) (LW A cI cQ cL u o (vp_updL f (0 : Int32).toNatClampNeg r.toInt64)) := hD
    refine lv_goto (tgt := 21) hx hb dL_least_10 (by decide) ?_
    refine lv_iconst (v := 0) hx hb dL_least_21 (by decide) ?_
    exact vx_ret (W.iret hx hb hr (fun t ht hW => ⟨⟨_, (u, vp_updL f (0 : Int32).toNatClampNeg r.toInt64), rfl, ⟨rfl, hpx, fun _ => (updL_0 f _).trans rfl⟩, by rw [ht]; exact hP, hD⟩, hS.F ht⟩) hS.2.2 dL_least_22)
set_option maxHeartbeats 4000000 in
set_option maxRecDepth 100000 in
/-- plan -/
theorem w_plan (l : Launch) (dC : Nat → ClassId) (dI : Nat → Nat → Nat) (A : Nat → Nat) (cI cQ cL : ClassId) (σ : HS) (x : Int32) (o : Nat) (f : Nat → Int64) (sz : Nat) {oE : Option String} {v k : Int32} {S : HS → Prop} (hC : CRes l dC dI A cI cQ σ yX3_plan wsX3_plan [.ref (A 0), .int x] oE v S) (hk0 : (oE = none ∧ k = 0) ∨ ∃ j, j < 3 ∧ oE = ([nIA, nIS, nNS] : List String)[j]? ∧ k = nI (j + 1)) :
    Met l yL_plan wsL_plan RMw (va_Pc [.ref (A 0), .int x, .ref o] (LF dC dI A cI cQ cL sz σ o f)) (va_Qi (fun (r : Int32) (u : HS × (Nat → Int64)) => r = k ∧ S u.1 ∧ (oE = none → u.2 0 = v.toInt64)) (LB dC dI A cI cQ cL o (va_A (LW A cI cQ cL σ o f) sz)) (va_A (LW A cI cQ cL σ o f) sz)) 1 6 (va_A (LW A cI cQ cL σ o f) sz) := by
  refine met_of (vx_ofWH (cc := cL_plan) (maxL := 4) (ret := some .int) (by decide) rfl ?_)
  intro p e s m args below meth c s₁ B hml hv
  obtain ⟨rfl, hsz, hP, hX, hKL, hD0, hH, hN⟩ := hv
  subst hsz
  have hx := B.exec
  have hb := B.bytes
  have hr := B.returns
  have hts := atoms_spec (ws := wsL_plan) B.pre
  have hown : s.vm.findClass RL = some m.cls := findClass_of_methodNamed B.named
  have htb := vx_table (x := yL_plan) B (hts _ List.mem_cons_self)
  have hK := hX.1
  have hPc := ap_P hP
  have hDc := ap_D hD0
  have hHc : HX (va_A (hfW A cI cQ σ) s.heap.size) s s.heap := hH.narrow fun q h => ap_A h
  have hFc : ∀ q, va_A (hfW A cI cQ σ) s.heap.size q → va_A (LW A cI cQ cL σ o f) s.heap.size q := fun q h => ap_A h
  have hS : va_S (va_A (LW A cI cQ cL σ o f) s.heap.size) s.heap s.heap [] := va_S.rf
  have hl := lv_entry ([.ref (A 0), .int x, .ref o]) (n := 4) (Nat.le_of_ble_eq_true rfl)
  rw [lg_entry_eq]
  generalize (lg_sl ([.ref (A 0), .int x, .ref o]) ++ List.replicate (4 - (lg_sl ([.ref (A 0), .int x, .ref o])).length) Slot.unset).toArray = ls at hl ⊢
  have hl : lv_has ls 4 [(0, .ref (A 0)), (1, .int x), (2, .ref o)] := hl
  refine lv_aload_n hx hb dL_plan_0 rfl (lv_at hl 2 rfl) ?_
  refine lv_iconst (v := 0) hx hb dL_plan_1 (by decide) ?_
  refine lv_aload_n hx hb dL_plan_2 rfl (lv_at hl 0 rfl) ?_
  refine lv_iload_n hx hb dL_plan_3 rfl (lv_at hl 1 rfl) ?_
  refine vx_calli (vx_runV (As := [.int x]) (rest := [.int 0, .ref o]) ⟨hx, hb, hml, hown, hts⟩ (hC s.heap.size) (cwV 1 hts gL_plan_X3_plan rfl rfl rfl (by decide +kernel) ⟨Nat.le_of_ble_eq_true rfl, Nat.le_of_ble_eq_true rfl⟩) ⟨bl_FX, va_recv hK hPc (ci := 3) (q0 := 0) rfl rfl, fun U hU hW => ⟨rfl, ⟨by rw [hU], by rw [hU]; exact hPc, hX.warm hW, hDc⟩, by rw [hU]; exact HX.moved hW.alike hHc⟩⟩ rfl rfl hl.1 rfl (lv_room (Nat.le_of_ble_eq_true rfl)) dL_plan_4 ⟨Nat.le_of_ble_eq_true rfl, Nat.le_of_ble_eq_true rfl⟩) hS (fun q _ h => hFc q h) hFc (fun q _ h => hFc q h) ?_ ?_
  · intro E ce q9 u t H locs ht hvm hpx hBX hz1 hk1 hS hcell hcv hcl
    obtain ⟨hE, hP1, hD1⟩ := hBX
    rw [ht] at hP1
    obtain ⟨hP, hD⟩ := fr_L (r := [(o, .inl (cL, 1, .inr (.inl f)))]) rfl hP hD0 hP1 hD1 hk1
    rcases hk0 with ⟨z, -⟩ | ⟨j, hj, z, rfl⟩
    · exact absurd (hE.symm.trans z) (Option.some_ne_none E)
    · obtain rfl | rfl | rfl : j = 0 ∨ j = 1 ∨ j = 2 := by omega
      · skip
        obtain rfl : E = nIA := Option.some.inj (hE.symm.trans z)
        refine vx_catch (own := RL) (name := nIA) hown [] ⟨0, 9, 12, 15⟩ [⟨0, 9, 15, 23⟩, ⟨0, 9, 18, 21⟩] htb (fun z hz => nomatch hz) rfl (by decide) (hts _ (List.mem_of_getElem? (i := 1) rfl)) (hX.xb _ _ (List.mem_of_getElem? (i := 14) rfl)) hcell hcv hcl ?_
        refine lv_astore_n (lv' := [(3, .ref q9), (0, .ref (A 0)), (1, .int x), (2, .ref o)]) hx hb dL_plan_12 rfl hl (by decide) rfl (fun ls hl => ?_)
        refine lv_iconst (v := 1) hx hb dL_plan_13 (by decide) ?_
        exact vx_ret (W.iret hx hb hr (fun t ht hW => ⟨⟨_, (u, f), rfl, ⟨rfl, hpx, fun z2 => absurd (hE.symm.trans z2) (Option.some_ne_none _)⟩, by rw [ht]; exact hP, hD⟩, hS.F ht⟩) hS.2.2 dL_plan_14)
      · skip
        obtain rfl : E = nIS := Option.some.inj (hE.symm.trans z)
        refine vx_catch (own := RL) (name := nIS) hown [⟨0, 9, 12, 15⟩] ⟨0, 9, 15, 23⟩ [⟨0, 9, 18, 21⟩] htb (List.forall_mem_cons.mpr ⟨Or.inr ⟨by decide, nIA, hts _ (List.mem_of_getElem? (i := 1) rfl), hN nIS (by decide) nIA (by decide) (by decide)⟩, fun z hz => nomatch hz⟩) rfl (by decide) (hts _ (List.mem_of_getElem? (i := 2) rfl)) (hX.xb _ _ (List.mem_of_getElem? (i := 15) rfl)) hcell hcv hcl ?_
        refine lv_astore_n (lv' := [(3, .ref q9), (0, .ref (A 0)), (1, .int x), (2, .ref o)]) hx hb dL_plan_15 rfl hl (by decide) rfl (fun ls hl => ?_)
        refine lv_iconst (v := 2) hx hb dL_plan_16 (by decide) ?_
        exact vx_ret (W.iret hx hb hr (fun t ht hW => ⟨⟨_, (u, f), rfl, ⟨rfl, hpx, fun z2 => absurd (hE.symm.trans z2) (Option.some_ne_none _)⟩, by rw [ht]; exact hP, hD⟩, hS.F ht⟩) hS.2.2 dL_plan_17)
      · skip
        obtain rfl : E = nNS := Option.some.inj (hE.symm.trans z)
        refine vx_catch (own := RL) (name := nNS) hown [⟨0, 9, 12, 15⟩, ⟨0, 9, 15, 23⟩] ⟨0, 9, 18, 21⟩ [] htb (List.forall_mem_cons.mpr ⟨Or.inr ⟨by decide, nIA, hts _ (List.mem_of_getElem? (i := 1) rfl), hN nNS (by decide) nIA (by decide) (by decide)⟩, List.forall_mem_cons.mpr ⟨Or.inr ⟨by decide, nIS, hts _ (List.mem_of_getElem? (i := 2) rfl), hN nNS (by decide) nIS (by decide) (by decide)⟩, fun z hz => nomatch hz⟩⟩) rfl (by decide) (hts _ (List.mem_of_getElem? (i := 3) rfl)) (hX.xb _ _ (List.mem_of_getElem? (i := 17) rfl)) hcell hcv hcl ?_
        refine lv_astore_n (lv' := [(3, .ref q9), (0, .ref (A 0)), (1, .int x), (2, .ref o)]) hx hb dL_plan_18 rfl hl (by decide) rfl (fun ls hl => ?_)
        refine lv_iconst (v := 3) hx hb dL_plan_19 (by decide) ?_
        exact vx_ret (W.iret hx hb hr (fun t ht hW => ⟨⟨_, (u, f), rfl, ⟨rfl, hpx, fun z2 => absurd (hE.symm.trans z2) (Option.some_ne_none _)⟩, by rw [ht]; exact hP, hD⟩, hS.F ht⟩) hS.2.2 dL_plan_20)
  · intro r u t H locs ht hvm hw hB hz1 hk1 hS
    obtain ⟨hE, hrv, hpx⟩ := hw
    subst hrv
    obtain ⟨hP1, hD1⟩ := hB
    rw [ht] at hP1
    obtain ⟨hP, hD⟩ := fr_L (r := [(o, .inl (cL, 1, .inr (.inl f)))]) rfl hP hD0 hP1 hD1 hk1
    have ek : k = 0 := by
      rcases hk0 with ⟨_, z⟩ | ⟨j, hj, z, _⟩
      · exact z
      · obtain rfl | rfl | rfl : j = 0 ∨ j = 1 ∨ j = 2 := by omega
        all_goals cases hE.symm.trans z
    subst ek
    refine lv_i2l (v := r.toInt64) hx hb dL_plan_7 rfl ?_
    refine va_last hx hb hKL hP hD hS 24 0 rfl rfl in01 dL_plan_8 (fun H locs hP hD hS => ?_)
    have hP : va_P (dC, dI) vwCl (LW A cI cQ cL u o (vp_updL f (0 : Int32).toNatClampNeg r.toInt64)) H := hP
    have hD : va_D (va_A (LW A cI cQ cL σ o f) s.heap.size) (LW A cI cQ cL u o (vp_updL f (0 : Int32).toNatClampNeg r.toInt64)) := hD
    refine lv_goto (tgt := 21) hx hb dL_plan_9 (by decide) ?_
    refine lv_iconst (v := 0) hx hb dL_plan_21 (by decide) ?_
    exact vx_ret (W.iret hx hb hr (fun t ht hW => ⟨⟨_, (u, vp_updL f (0 : Int32).toNatClampNeg r.toInt64), rfl, ⟨rfl, hpx, fun _ => (updL_0 f _).trans rfl⟩, by rw [ht]; exact hP, hD⟩, hS.F ht⟩) hS.2.2 dL_plan_22)
set_option maxHeartbeats 4000000 in
set_option maxRecDepth 100000 in
/-- node -/
theorem w_node (l : Launch) (dC : Nat → ClassId) (dI : Nat → Nat → Nat) (A : Nat → Nat) (cI cQ cL : ClassId) (σ : HS) (i : Int32) (x : Int32) (o : Nat) (f : Nat → Int64) (sz : Nat) {oE : Option String} {v k : Int32} {S : HS → Prop} (hC : CRes l dC dI A cI cQ σ yX3_node wsX3_node [.ref (A 0), .int i, .int x] oE v S) (hk0 : (oE = none ∧ k = 0) ∨ ∃ j, j < 1 ∧ oE = ([nIO] : List String)[j]? ∧ k = nI (j + 1)) :
    Met l yL_node wsL_node RMw (va_Pc [.ref (A 0), .int i, .int x, .ref o] (LF dC dI A cI cQ cL sz σ o f)) (va_Qi (fun (r : Int32) (u : HS × (Nat → Int64)) => r = k ∧ S u.1 ∧ (oE = none → u.2 0 = v.toInt64)) (LB dC dI A cI cQ cL o (va_A (LW A cI cQ cL σ o f) sz)) (va_A (LW A cI cQ cL σ o f) sz)) 1 6 (va_A (LW A cI cQ cL σ o f) sz) := by
  refine met_of (vx_ofWH (cc := cL_node) (maxL := 5) (ret := some .int) (by decide) rfl ?_)
  intro p e s m args below meth c s₁ B hml hv
  obtain ⟨rfl, hsz, hP, hX, hKL, hD0, hH, hN⟩ := hv
  subst hsz
  have hx := B.exec
  have hb := B.bytes
  have hr := B.returns
  have hts := atoms_spec (ws := wsL_node) B.pre
  have hown : s.vm.findClass RL = some m.cls := findClass_of_methodNamed B.named
  have htb := vx_table (x := yL_node) B (hts _ List.mem_cons_self)
  have hK := hX.1
  have hPc := ap_P hP
  have hDc := ap_D hD0
  have hHc : HX (va_A (hfW A cI cQ σ) s.heap.size) s s.heap := hH.narrow fun q h => ap_A h
  have hFc : ∀ q, va_A (hfW A cI cQ σ) s.heap.size q → va_A (LW A cI cQ cL σ o f) s.heap.size q := fun q h => ap_A h
  have hS : va_S (va_A (LW A cI cQ cL σ o f) s.heap.size) s.heap s.heap [] := va_S.rf
  have hl := lv_entry ([.ref (A 0), .int i, .int x, .ref o]) (n := 5) (Nat.le_of_ble_eq_true rfl)
  rw [lg_entry_eq]
  generalize (lg_sl ([.ref (A 0), .int i, .int x, .ref o]) ++ List.replicate (5 - (lg_sl ([.ref (A 0), .int i, .int x, .ref o])).length) Slot.unset).toArray = ls at hl ⊢
  have hl : lv_has ls 5 [(0, .ref (A 0)), (1, .int i), (2, .int x), (3, .ref o)] := hl
  refine lv_aload_n hx hb dL_node_0 rfl (lv_at hl 3 rfl) ?_
  refine lv_iconst (v := 0) hx hb dL_node_1 (by decide) ?_
  refine lv_aload_n hx hb dL_node_2 rfl (lv_at hl 0 rfl) ?_
  refine lv_iload_n hx hb dL_node_3 rfl (lv_at hl 1 rfl) ?_
  refine lv_iload_n hx hb dL_node_4 rfl (lv_at hl 2 rfl) ?_
  refine vx_calli (vx_runV (As := [.int i, .int x]) (rest := [.int 0, .ref o]) ⟨hx, hb, hml, hown, hts⟩ (hC s.heap.size) (cwV 2 hts gL_node_X3_node rfl rfl rfl (by decide +kernel) ⟨Nat.le_of_ble_eq_true rfl, Nat.le_of_ble_eq_true rfl⟩) ⟨bl_FX, va_recv hK hPc (ci := 3) (q0 := 0) rfl rfl, fun U hU hW => ⟨rfl, ⟨by rw [hU], by rw [hU]; exact hPc, hX.warm hW, hDc⟩, by rw [hU]; exact HX.moved hW.alike hHc⟩⟩ rfl rfl hl.1 rfl (lv_room (Nat.le_of_ble_eq_true rfl)) dL_node_5 ⟨Nat.le_of_ble_eq_true rfl, Nat.le_of_ble_eq_true rfl⟩) hS (fun q _ h => hFc q h) hFc (fun q _ h => hFc q h) ?_ ?_
  · intro E ce q9 u t H locs ht hvm hpx hBX hz1 hk1 hS hcell hcv hcl
    obtain ⟨hE, hP1, hD1⟩ := hBX
    rw [ht] at hP1
    obtain ⟨hP, hD⟩ := fr_L (r := [(o, .inl (cL, 1, .inr (.inl f)))]) rfl hP hD0 hP1 hD1 hk1
    rcases hk0 with ⟨z, -⟩ | ⟨j, hj, z, rfl⟩
    · exact absurd (hE.symm.trans z) (Option.some_ne_none E)
    · obtain rfl : j = 0 := by omega
      obtain rfl : E = nIO := Option.some.inj (hE.symm.trans z)
      refine vx_catch (own := RL) (name := nIO) hown [] ⟨0, 10, 13, 13⟩ [] htb (fun z hz => nomatch hz) rfl (by decide) (hts _ (List.mem_of_getElem? (i := 1) rfl)) (hX.xb _ _ (List.mem_of_getElem? (i := 13) rfl)) hcell hcv hcl ?_
      refine lv_astore (lv' := [(4, .ref q9), (0, .ref (A 0)), (1, .int i), (2, .int x), (3, .ref o)]) hx hb dL_node_13 hl (by decide) rfl (fun ls hl => ?_)
      refine lv_iconst (v := 1) hx hb dL_node_15 (by decide) ?_
      exact vx_ret (W.iret hx hb hr (fun t ht hW => ⟨⟨_, (u, f), rfl, ⟨rfl, hpx, fun z2 => absurd (hE.symm.trans z2) (Option.some_ne_none _)⟩, by rw [ht]; exact hP, hD⟩, hS.F ht⟩) hS.2.2 dL_node_16)
  · intro r u t H locs ht hvm hw hB hz1 hk1 hS
    obtain ⟨hE, hrv, hpx⟩ := hw
    subst hrv
    obtain ⟨hP1, hD1⟩ := hB
    rw [ht] at hP1
    obtain ⟨hP, hD⟩ := fr_L (r := [(o, .inl (cL, 1, .inr (.inl f)))]) rfl hP hD0 hP1 hD1 hk1
    have ek : k = 0 := by
      rcases hk0 with ⟨_, z⟩ | ⟨j, hj, z, _⟩
      · exact z
      · obtain rfl : j = 0 := by omega
        cases hE.symm.trans z
    subst ek
    refine lv_i2l (v := r.toInt64) hx hb dL_node_8 rfl ?_
    refine va_last hx hb hKL hP hD hS 24 0 rfl rfl in01 dL_node_9 (fun H locs hP hD hS => ?_)
    have hP : va_P (dC, dI) vwCl (LW A cI cQ cL u o (vp_updL f (0 : Int32).toNatClampNeg r.toInt64)) H := hP
    have hD : va_D (va_A (LW A cI cQ cL σ o f) s.heap.size) (LW A cI cQ cL u o (vp_updL f (0 : Int32).toNatClampNeg r.toInt64)) := hD
    refine lv_goto (tgt := 17) hx hb dL_node_10 (by decide) ?_
    refine lv_iconst (v := 0) hx hb dL_node_17 (by decide) ?_
    exact vx_ret (W.iret hx hb hr (fun t ht hW => ⟨⟨_, (u, vp_updL f (0 : Int32).toNatClampNeg r.toInt64), rfl, ⟨rfl, hpx, fun _ => (updL_0 f _).trans rfl⟩, by rw [ht]; exact hP, hD⟩, hS.F ht⟩) hS.2.2 dL_node_18)
set_option maxHeartbeats 4000000 in
set_option maxRecDepth 100000 in
/-- edit -/
theorem w_edit (l : Launch) (dC : Nat → ClassId) (dI : Nat → Nat → Nat) (A : Nat → Nat) (cI cQ cL : ClassId) (σ : HS) (i : Int32) (x : Int32) (o : Nat) (f : Nat → Int64) (sz : Nat) {oE : Option String} {v k : Int32} {S : HS → Prop} (hC : CRes l dC dI A cI cQ σ yX3_edit wsX3_edit [.ref (A 0), .int i, .int x] oE v S) (hk0 : (oE = none ∧ k = 0) ∨ ∃ j, j < 3 ∧ oE = ([nIO, nNS, nUO] : List String)[j]? ∧ k = nI (j + 1)) :
    Met l yL_edit wsL_edit RMw (va_Pc [.ref (A 0), .int i, .int x, .ref o] (LF dC dI A cI cQ cL sz σ o f)) (va_Qi (fun (r : Int32) (u : HS × (Nat → Int64)) => r = k ∧ S u.1 ∧ (oE = none → u.2 0 = v.toInt64)) (LB dC dI A cI cQ cL o (va_A (LW A cI cQ cL σ o f) sz)) (va_A (LW A cI cQ cL σ o f) sz)) 1 6 (va_A (LW A cI cQ cL σ o f) sz) := by
  refine met_of (vx_ofWH (cc := cL_edit) (maxL := 5) (ret := some .int) (by decide) rfl ?_)
  intro p e s m args below meth c s₁ B hml hv
  obtain ⟨rfl, hsz, hP, hX, hKL, hD0, hH, hN⟩ := hv
  subst hsz
  have hx := B.exec
  have hb := B.bytes
  have hr := B.returns
  have hts := atoms_spec (ws := wsL_edit) B.pre
  have hown : s.vm.findClass RL = some m.cls := findClass_of_methodNamed B.named
  have htb := vx_table (x := yL_edit) B (hts _ List.mem_cons_self)
  have hK := hX.1
  have hPc := ap_P hP
  have hDc := ap_D hD0
  have hHc : HX (va_A (hfW A cI cQ σ) s.heap.size) s s.heap := hH.narrow fun q h => ap_A h
  have hFc : ∀ q, va_A (hfW A cI cQ σ) s.heap.size q → va_A (LW A cI cQ cL σ o f) s.heap.size q := fun q h => ap_A h
  have hS : va_S (va_A (LW A cI cQ cL σ o f) s.heap.size) s.heap s.heap [] := va_S.rf
  have hl := lv_entry ([.ref (A 0), .int i, .int x, .ref o]) (n := 5) (Nat.le_of_ble_eq_true rfl)
  rw [lg_entry_eq]
  generalize (lg_sl ([.ref (A 0), .int i, .int x, .ref o]) ++ List.replicate (5 - (lg_sl ([.ref (A 0), .int i, .int x, .ref o])).length) Slot.unset).toArray = ls at hl ⊢
  have hl : lv_has ls 5 [(0, .ref (A 0)), (1, .int i), (2, .int x), (3, .ref o)] := hl
  refine lv_aload_n hx hb dL_edit_0 rfl (lv_at hl 3 rfl) ?_
  refine lv_iconst (v := 0) hx hb dL_edit_1 (by decide) ?_
  refine lv_aload_n hx hb dL_edit_2 rfl (lv_at hl 0 rfl) ?_
  refine lv_iload_n hx hb dL_edit_3 rfl (lv_at hl 1 rfl) ?_
  refine lv_iload_n hx hb dL_edit_4 rfl (lv_at hl 2 rfl) ?_
  refine vx_calli (vx_runV (As := [.int i, .int x]) (rest := [.int 0, .ref o]) ⟨hx, hb, hml, hown, hts⟩ (hC s.heap.size) (cwV 2 hts gL_edit_X3_edit rfl rfl rfl (by decide +kernel) ⟨Nat.le_of_ble_eq_true rfl, Nat.le_of_ble_eq_true rfl⟩) ⟨bl_FX, va_recv hK hPc (ci := 3) (q0 := 0) rfl rfl, fun U hU hW => ⟨rfl, ⟨by rw [hU], by rw [hU]; exact hPc, hX.warm hW, hDc⟩, by rw [hU]; exact HX.moved hW.alike hHc⟩⟩ rfl rfl hl.1 rfl (lv_room (Nat.le_of_ble_eq_true rfl)) dL_edit_5 ⟨Nat.le_of_ble_eq_true rfl, Nat.le_of_ble_eq_true rfl⟩) hS (fun q _ h => hFc q h) hFc (fun q _ h => hFc q h) ?_ ?_
  · intro E ce q9 u t H locs ht hvm hpx hBX hz1 hk1 hS hcell hcv hcl
    obtain ⟨hE, hP1, hD1⟩ := hBX
    rw [ht] at hP1
    obtain ⟨hP, hD⟩ := fr_L (r := [(o, .inl (cL, 1, .inr (.inl f)))]) rfl hP hD0 hP1 hD1 hk1
    rcases hk0 with ⟨z, -⟩ | ⟨j, hj, z, rfl⟩
    · exact absurd (hE.symm.trans z) (Option.some_ne_none E)
    · obtain rfl | rfl | rfl : j = 0 ∨ j = 1 ∨ j = 2 := by omega
      · skip
        obtain rfl : E = nIO := Option.some.inj (hE.symm.trans z)
        refine vx_catch (own := RL) (name := nIO) hown [] ⟨0, 10, 13, 13⟩ [⟨0, 10, 17, 21⟩, ⟨0, 10, 21, 35⟩] htb (fun z hz => nomatch hz) rfl (by decide) (hts _ (List.mem_of_getElem? (i := 1) rfl)) (hX.xb _ _ (List.mem_of_getElem? (i := 13) rfl)) hcell hcv hcl ?_
        refine lv_astore (lv' := [(4, .ref q9), (0, .ref (A 0)), (1, .int i), (2, .int x), (3, .ref o)]) hx hb dL_edit_13 hl (by decide) rfl (fun ls hl => ?_)
        refine lv_iconst (v := 1) hx hb dL_edit_15 (by decide) ?_
        exact vx_ret (W.iret hx hb hr (fun t ht hW => ⟨⟨_, (u, f), rfl, ⟨rfl, hpx, fun z2 => absurd (hE.symm.trans z2) (Option.some_ne_none _)⟩, by rw [ht]; exact hP, hD⟩, hS.F ht⟩) hS.2.2 dL_edit_16)
      · skip
        obtain rfl : E = nNS := Option.some.inj (hE.symm.trans z)
        refine vx_catch (own := RL) (name := nNS) hown [⟨0, 10, 13, 13⟩] ⟨0, 10, 17, 21⟩ [⟨0, 10, 21, 35⟩] htb (List.forall_mem_cons.mpr ⟨Or.inr ⟨by decide, nIO, hts _ (List.mem_of_getElem? (i := 1) rfl), hN nNS (by decide) nIO (by decide) (by decide)⟩, fun z hz => nomatch hz⟩) rfl (by decide) (hts _ (List.mem_of_getElem? (i := 2) rfl)) (hX.xb _ _ (List.mem_of_getElem? (i := 17) rfl)) hcell hcv hcl ?_
        refine lv_astore (lv' := [(4, .ref q9), (0, .ref (A 0)), (1, .int i), (2, .int x), (3, .ref o)]) hx hb dL_edit_17 hl (by decide) rfl (fun ls hl => ?_)
        refine lv_iconst (v := 2) hx hb dL_edit_19 (by decide) ?_
        exact vx_ret (W.iret hx hb hr (fun t ht hW => ⟨⟨_, (u, f), rfl, ⟨rfl, hpx, fun z2 => absurd (hE.symm.trans z2) (Option.some_ne_none _)⟩, by rw [ht]; exact hP, hD⟩, hS.F ht⟩) hS.2.2 dL_edit_20)
      · skip
        obtain rfl : E = nUO := Option.some.inj (hE.symm.trans z)
        refine vx_catch (own := RL) (name := nUO) hown [⟨0, 10, 13, 13⟩, ⟨0, 10, 17, 21⟩] ⟨0, 10, 21, 35⟩ [] htb (List.forall_mem_cons.mpr ⟨Or.inr ⟨by decide, nIO, hts _ (List.mem_of_getElem? (i := 1) rfl), hN nUO (by decide) nIO (by decide) (by decide)⟩, List.forall_mem_cons.mpr ⟨Or.inr ⟨by decide, nNS, hts _ (List.mem_of_getElem? (i := 2) rfl), hN nUO (by decide) nNS (by decide) (by decide)⟩, fun z hz => nomatch hz⟩⟩) rfl (by decide) (hts _ (List.mem_of_getElem? (i := 3) rfl)) (hX.xb _ _ (List.mem_of_getElem? (i := 16) rfl)) hcell hcv hcl ?_
        refine lv_astore (lv' := [(4, .ref q9), (0, .ref (A 0)), (1, .int i), (2, .int x), (3, .ref o)]) hx hb dL_edit_21 hl (by decide) rfl (fun ls hl => ?_)
        refine lv_iconst (v := 3) hx hb dL_edit_23 (by decide) ?_
        exact vx_ret (W.iret hx hb hr (fun t ht hW => ⟨⟨_, (u, f), rfl, ⟨rfl, hpx, fun z2 => absurd (hE.symm.trans z2) (Option.some_ne_none _)⟩, by rw [ht]; exact hP, hD⟩, hS.F ht⟩) hS.2.2 dL_edit_24)
  · intro r u t H locs ht hvm hw hB hz1 hk1 hS
    obtain ⟨hE, hrv, hpx⟩ := hw
    subst hrv
    obtain ⟨hP1, hD1⟩ := hB
    rw [ht] at hP1
    obtain ⟨hP, hD⟩ := fr_L (r := [(o, .inl (cL, 1, .inr (.inl f)))]) rfl hP hD0 hP1 hD1 hk1
    have ek : k = 0 := by
      rcases hk0 with ⟨_, z⟩ | ⟨j, hj, z, _⟩
      · exact z
      · obtain rfl | rfl | rfl : j = 0 ∨ j = 1 ∨ j = 2 := by omega
        all_goals cases hE.symm.trans z
    subst ek
    refine lv_i2l (v := r.toInt64) hx hb dL_edit_8 rfl ?_
    refine va_last hx hb hKL hP hD hS 24 0 rfl rfl in01 dL_edit_9 (fun H locs hP hD hS => ?_)
    have hP : va_P (dC, dI) vwCl (LW A cI cQ cL u o (vp_updL f (0 : Int32).toNatClampNeg r.toInt64)) H := hP
    have hD : va_D (va_A (LW A cI cQ cL σ o f) s.heap.size) (LW A cI cQ cL u o (vp_updL f (0 : Int32).toNatClampNeg r.toInt64)) := hD
    refine lv_goto (tgt := 25) hx hb dL_edit_10 (by decide) ?_
    refine lv_iconst (v := 0) hx hb dL_edit_25 (by decide) ?_
    exact vx_ret (W.iret hx hb hr (fun t ht hW => ⟨⟨_, (u, vp_updL f (0 : Int32).toNatClampNeg r.toInt64), rfl, ⟨rfl, hpx, fun _ => (updL_0 f _).trans rfl⟩, by rw [ht]; exact hP, hD⟩, hS.F ht⟩) hS.2.2 dL_edit_26)
set_option maxHeartbeats 4000000 in
set_option maxRecDepth 100000 in
/-- right -/
theorem w_right (l : Launch) (dC : Nat → ClassId) (dI : Nat → Nat → Nat) (A : Nat → Nat) (cI cQ cL : ClassId) (σ : HS) (o : Nat) (f : Nat → Int64) (sz : Nat) {oE : Option String} {v k : Int32} {S : HS → Prop} (hC : CRes l dC dI A cI cQ σ yX3_right wsX3_right [.ref (A 0)] oE v S) (hk0 : (oE = none ∧ k = 0) ∨ ∃ j, j < 1 ∧ oE = ([nIS] : List String)[j]? ∧ k = nI (j + 1)) :
    Met l yL_right wsL_right RMw (va_Pc [.ref (A 0), .ref o] (LF dC dI A cI cQ cL sz σ o f)) (va_Qi (fun (r : Int32) (u : HS × (Nat → Int64)) => r = k ∧ S u.1 ∧ (oE = none → u.2 0 = lb v)) (LB dC dI A cI cQ cL o (va_A (LW A cI cQ cL σ o f) sz)) (va_A (LW A cI cQ cL σ o f) sz)) 1 6 (va_A (LW A cI cQ cL σ o f) sz) := by
  refine met_of (vx_ofWH (cc := cL_right) (maxL := 3) (ret := some .int) (by decide) rfl ?_)
  intro p e s m args below meth c s₁ B hml hv
  obtain ⟨rfl, hsz, hP, hX, hKL, hD0, hH, hN⟩ := hv
  subst hsz
  have hx := B.exec
  have hb := B.bytes
  have hr := B.returns
  have hts := atoms_spec (ws := wsL_right) B.pre
  have hown : s.vm.findClass RL = some m.cls := findClass_of_methodNamed B.named
  have htb := vx_table (x := yL_right) B (hts _ List.mem_cons_self)
  have hK := hX.1
  have hPc := ap_P hP
  have hDc := ap_D hD0
  have hHc : HX (va_A (hfW A cI cQ σ) s.heap.size) s s.heap := hH.narrow fun q h => ap_A h
  have hFc : ∀ q, va_A (hfW A cI cQ σ) s.heap.size q → va_A (LW A cI cQ cL σ o f) s.heap.size q := fun q h => ap_A h
  have hS : va_S (va_A (LW A cI cQ cL σ o f) s.heap.size) s.heap s.heap [] := va_S.rf
  have hl := lv_entry ([.ref (A 0), .ref o]) (n := 3) (Nat.le_of_ble_eq_true rfl)
  rw [lg_entry_eq]
  generalize (lg_sl ([.ref (A 0), .ref o]) ++ List.replicate (3 - (lg_sl ([.ref (A 0), .ref o])).length) Slot.unset).toArray = ls at hl ⊢
  have hl : lv_has ls 3 [(0, .ref (A 0)), (1, .ref o)] := hl
  refine lv_aload_n hx hb dL_right_0 rfl (lv_at hl 1 rfl) ?_
  refine lv_iconst (v := 0) hx hb dL_right_1 (by decide) ?_
  refine lv_aload_n hx hb dL_right_2 rfl (lv_at hl 0 rfl) ?_
  refine vx_calli (vx_runV (As := []) (rest := [.int 0, .ref o]) ⟨hx, hb, hml, hown, hts⟩ (hC s.heap.size) (cwV 0 hts gL_right_X3_right rfl rfl rfl (by decide +kernel) ⟨Nat.le_of_ble_eq_true rfl, Nat.le_of_ble_eq_true rfl⟩) ⟨bl_FX, va_recv hK hPc (ci := 3) (q0 := 0) rfl rfl, fun U hU hW => ⟨rfl, ⟨by rw [hU], by rw [hU]; exact hPc, hX.warm hW, hDc⟩, by rw [hU]; exact HX.moved hW.alike hHc⟩⟩ rfl rfl hl.1 rfl (lv_room (Nat.le_of_ble_eq_true rfl)) dL_right_3 ⟨Nat.le_of_ble_eq_true rfl, Nat.le_of_ble_eq_true rfl⟩) hS (fun q _ h => hFc q h) hFc (fun q _ h => hFc q h) ?_ ?_
  · intro E ce q9 u t H locs ht hvm hpx hBX hz1 hk1 hS hcell hcv hcl
    obtain ⟨hE, hP1, hD1⟩ := hBX
    rw [ht] at hP1
    obtain ⟨hP, hD⟩ := fr_L (r := [(o, .inl (cL, 1, .inr (.inl f)))]) rfl hP hD0 hP1 hD1 hk1
    rcases hk0 with ⟨z, -⟩ | ⟨j, hj, z, rfl⟩
    · exact absurd (hE.symm.trans z) (Option.some_ne_none E)
    · obtain rfl : j = 0 := by omega
      obtain rfl : E = nIS := Option.some.inj (hE.symm.trans z)
      refine vx_catch (own := RL) (name := nIS) hown [] ⟨0, 15, 18, 23⟩ [] htb (fun z hz => nomatch hz) rfl (by decide) (hts _ (List.mem_of_getElem? (i := 1) rfl)) (hX.xb _ _ (List.mem_of_getElem? (i := 15) rfl)) hcell hcv hcl ?_
      refine lv_astore_n (lv' := [(2, .ref q9), (0, .ref (A 0)), (1, .ref o)]) hx hb dL_right_18 rfl hl (by decide) rfl (fun ls hl => ?_)
      refine lv_iconst (v := 1) hx hb dL_right_19 (by decide) ?_
      exact vx_ret (W.iret hx hb hr (fun t ht hW => ⟨⟨_, (u, f), rfl, ⟨rfl, hpx, fun z2 => absurd (hE.symm.trans z2) (Option.some_ne_none _)⟩, by rw [ht]; exact hP, hD⟩, hS.F ht⟩) hS.2.2 dL_right_20)
  · intro r u t H locs ht hvm hw hB hz1 hk1 hS
    obtain ⟨hE, hrv, hpx⟩ := hw
    subst hrv
    obtain ⟨hP1, hD1⟩ := hB
    rw [ht] at hP1
    obtain ⟨hP, hD⟩ := fr_L (r := [(o, .inl (cL, 1, .inr (.inl f)))]) rfl hP hD0 hP1 hD1 hk1
    have ek : k = 0 := by
      rcases hk0 with ⟨_, z⟩ | ⟨j, hj, z, _⟩
      · exact z
      · obtain rfl : j = 0 := by omega
        cases hE.symm.trans z
    subst ek
    refine lv_if_eq (tgt := 13) hx hb dL_right_6 (by decide) (fun c0 => ?_) (fun c0 => ?_)
    · refine lv_lconst (v := 0) hx hb dL_right_13 rfl ?_
      refine va_last hx hb hKL hP hD hS 24 0 rfl rfl in01 dL_right_14 (fun H locs hP hD hS => ?_)
      have hP : va_P (dC, dI) vwCl (LW A cI cQ cL u o (vp_updL f (0 : Int32).toNatClampNeg 0)) H := hP
      have hD : va_D (va_A (LW A cI cQ cL σ o f) s.heap.size) (LW A cI cQ cL u o (vp_updL f (0 : Int32).toNatClampNeg 0)) := hD
      refine lv_goto (tgt := 21) hx hb dL_right_15 (by decide) ?_
      refine lv_iconst (v := 0) hx hb dL_right_21 (by decide) ?_
      exact vx_ret (W.iret hx hb hr (fun t ht hW => ⟨⟨_, (u, vp_updL f (0 : Int32).toNatClampNeg 0), rfl, ⟨rfl, hpx, fun _ => (updL_0 f _).trans (show (0 : Int64) = lb r by unfold lb; rw [if_pos c0])⟩, by rw [ht]; exact hP, hD⟩, hS.F ht⟩) hS.2.2 dL_right_22)
    · refine lv_lconst (v := 1) hx hb dL_right_9 rfl ?_
      refine lv_goto (tgt := 14) hx hb dL_right_10 (by decide) ?_
      refine va_last hx hb hKL hP hD hS 24 0 rfl rfl in01 dL_right_14 (fun H locs hP hD hS => ?_)
      have hP : va_P (dC, dI) vwCl (LW A cI cQ cL u o (vp_updL f (0 : Int32).toNatClampNeg 1)) H := hP
      have hD : va_D (va_A (LW A cI cQ cL σ o f) s.heap.size) (LW A cI cQ cL u o (vp_updL f (0 : Int32).toNatClampNeg 1)) := hD
      refine lv_goto (tgt := 21) hx hb dL_right_15 (by decide) ?_
      refine lv_iconst (v := 0) hx hb dL_right_21 (by decide) ?_
      exact vx_ret (W.iret hx hb hr (fun t ht hW => ⟨⟨_, (u, vp_updL f (0 : Int32).toNatClampNeg 1), rfl, ⟨rfl, hpx, fun _ => (updL_0 f _).trans (show (1 : Int64) = lb r by unfold lb; rw [if_neg c0])⟩, by rw [ht]; exact hP, hD⟩, hS.F ht⟩) hS.2.2 dL_right_22)
set_option maxHeartbeats 4000000 in
set_option maxRecDepth 100000 in
/-- hide -/
theorem w_hide (l : Launch) (dC : Nat → ClassId) (dI : Nat → Nat → Nat) (A : Nat → Nat) (cI cQ cL : ClassId) (σ : HS) (x : Int32) (o : Nat) (f : Nat → Int64) (sz : Nat) {oE : Option String} {v k : Int32} {S : HS → Prop} (hC : CRes l dC dI A cI cQ σ yX3_hide wsX3_hide [.ref (A 0), .int x] oE v S) (hk0 : (oE = none ∧ k = 0) ∨ ∃ j, j < 1 ∧ oE = ([nIA] : List String)[j]? ∧ k = nI (j + 1)) :
    Met l yL_hide wsL_hide RMw (va_Pc [.ref (A 0), .int x, .ref o] (LF dC dI A cI cQ cL sz σ o f)) (va_Qi (fun (r : Int32) (u : HS × (Nat → Int64)) => r = k ∧ S u.1 ∧ (oE = none → u.2 0 = lb v)) (LB dC dI A cI cQ cL o (va_A (LW A cI cQ cL σ o f) sz)) (va_A (LW A cI cQ cL σ o f) sz)) 1 6 (va_A (LW A cI cQ cL σ o f) sz) := by
  refine met_of (vx_ofWH (cc := cL_hide) (maxL := 4) (ret := some .int) (by decide) rfl ?_)
  intro p e s m args below meth c s₁ B hml hv
  obtain ⟨rfl, hsz, hP, hX, hKL, hD0, hH, hN⟩ := hv
  subst hsz
  have hx := B.exec
  have hb := B.bytes
  have hr := B.returns
  have hts := atoms_spec (ws := wsL_hide) B.pre
  have hown : s.vm.findClass RL = some m.cls := findClass_of_methodNamed B.named
  have htb := vx_table (x := yL_hide) B (hts _ List.mem_cons_self)
  have hK := hX.1
  have hPc := ap_P hP
  have hDc := ap_D hD0
  have hHc : HX (va_A (hfW A cI cQ σ) s.heap.size) s s.heap := hH.narrow fun q h => ap_A h
  have hFc : ∀ q, va_A (hfW A cI cQ σ) s.heap.size q → va_A (LW A cI cQ cL σ o f) s.heap.size q := fun q h => ap_A h
  have hS : va_S (va_A (LW A cI cQ cL σ o f) s.heap.size) s.heap s.heap [] := va_S.rf
  have hl := lv_entry ([.ref (A 0), .int x, .ref o]) (n := 4) (Nat.le_of_ble_eq_true rfl)
  rw [lg_entry_eq]
  generalize (lg_sl ([.ref (A 0), .int x, .ref o]) ++ List.replicate (4 - (lg_sl ([.ref (A 0), .int x, .ref o])).length) Slot.unset).toArray = ls at hl ⊢
  have hl : lv_has ls 4 [(0, .ref (A 0)), (1, .int x), (2, .ref o)] := hl
  refine lv_aload_n hx hb dL_hide_0 rfl (lv_at hl 2 rfl) ?_
  refine lv_iconst (v := 0) hx hb dL_hide_1 (by decide) ?_
  refine lv_aload_n hx hb dL_hide_2 rfl (lv_at hl 0 rfl) ?_
  refine lv_iload_n hx hb dL_hide_3 rfl (lv_at hl 1 rfl) ?_
  refine vx_calli (vx_runV (As := [.int x]) (rest := [.int 0, .ref o]) ⟨hx, hb, hml, hown, hts⟩ (hC s.heap.size) (cwV 1 hts gL_hide_X3_hide rfl rfl rfl (by decide +kernel) ⟨Nat.le_of_ble_eq_true rfl, Nat.le_of_ble_eq_true rfl⟩) ⟨bl_FX, va_recv hK hPc (ci := 3) (q0 := 0) rfl rfl, fun U hU hW => ⟨rfl, ⟨by rw [hU], by rw [hU]; exact hPc, hX.warm hW, hDc⟩, by rw [hU]; exact HX.moved hW.alike hHc⟩⟩ rfl rfl hl.1 rfl (lv_room (Nat.le_of_ble_eq_true rfl)) dL_hide_4 ⟨Nat.le_of_ble_eq_true rfl, Nat.le_of_ble_eq_true rfl⟩) hS (fun q _ h => hFc q h) hFc (fun q _ h => hFc q h) ?_ ?_
  · intro E ce q9 u t H locs ht hvm hpx hBX hz1 hk1 hS hcell hcv hcl
    obtain ⟨hE, hP1, hD1⟩ := hBX
    rw [ht] at hP1
    obtain ⟨hP, hD⟩ := fr_L (r := [(o, .inl (cL, 1, .inr (.inl f)))]) rfl hP hD0 hP1 hD1 hk1
    rcases hk0 with ⟨z, -⟩ | ⟨j, hj, z, rfl⟩
    · exact absurd (hE.symm.trans z) (Option.some_ne_none E)
    · obtain rfl : j = 0 := by omega
      obtain rfl : E = nIA := Option.some.inj (hE.symm.trans z)
      refine vx_catch (own := RL) (name := nIA) hown [] ⟨0, 16, 19, 15⟩ [] htb (fun z hz => nomatch hz) rfl (by decide) (hts _ (List.mem_of_getElem? (i := 1) rfl)) (hX.xb _ _ (List.mem_of_getElem? (i := 14) rfl)) hcell hcv hcl ?_
      refine lv_astore_n (lv' := [(3, .ref q9), (0, .ref (A 0)), (1, .int x), (2, .ref o)]) hx hb dL_hide_19 rfl hl (by decide) rfl (fun ls hl => ?_)
      refine lv_iconst (v := 1) hx hb dL_hide_20 (by decide) ?_
      exact vx_ret (W.iret hx hb hr (fun t ht hW => ⟨⟨_, (u, f), rfl, ⟨rfl, hpx, fun z2 => absurd (hE.symm.trans z2) (Option.some_ne_none _)⟩, by rw [ht]; exact hP, hD⟩, hS.F ht⟩) hS.2.2 dL_hide_21)
  · intro r u t H locs ht hvm hw hB hz1 hk1 hS
    obtain ⟨hE, hrv, hpx⟩ := hw
    subst hrv
    obtain ⟨hP1, hD1⟩ := hB
    rw [ht] at hP1
    obtain ⟨hP, hD⟩ := fr_L (r := [(o, .inl (cL, 1, .inr (.inl f)))]) rfl hP hD0 hP1 hD1 hk1
    have ek : k = 0 := by
      rcases hk0 with ⟨_, z⟩ | ⟨j, hj, z, _⟩
      · exact z
      · obtain rfl : j = 0 := by omega
        cases hE.symm.trans z
    subst ek
    refine lv_if_eq (tgt := 14) hx hb dL_hide_7 (by decide) (fun c0 => ?_) (fun c0 => ?_)
    · refine lv_lconst (v := 0) hx hb dL_hide_14 rfl ?_
      refine va_last hx hb hKL hP hD hS 24 0 rfl rfl in01 dL_hide_15 (fun H locs hP hD hS => ?_)
      have hP : va_P (dC, dI) vwCl (LW A cI cQ cL u o (vp_updL f (0 : Int32).toNatClampNeg 0)) H := hP
      have hD : va_D (va_A (LW A cI cQ cL σ o f) s.heap.size) (LW A cI cQ cL u o (vp_updL f (0 : Int32).toNatClampNeg 0)) := hD
      refine lv_goto (tgt := 22) hx hb dL_hide_16 (by decide) ?_
      refine lv_iconst (v := 0) hx hb dL_hide_22 (by decide) ?_
      exact vx_ret (W.iret hx hb hr (fun t ht hW => ⟨⟨_, (u, vp_updL f (0 : Int32).toNatClampNeg 0), rfl, ⟨rfl, hpx, fun _ => (updL_0 f _).trans (show (0 : Int64) = lb r by unfold lb; rw [if_pos c0])⟩, by rw [ht]; exact hP, hD⟩, hS.F ht⟩) hS.2.2 dL_hide_23)
    · refine lv_lconst (v := 1) hx hb dL_hide_10 rfl ?_
      refine lv_goto (tgt := 15) hx hb dL_hide_11 (by decide) ?_
      refine va_last hx hb hKL hP hD hS 24 0 rfl rfl in01 dL_hide_15 (fun H locs hP hD hS => ?_)
      have hP : va_P (dC, dI) vwCl (LW A cI cQ cL u o (vp_updL f (0 : Int32).toNatClampNeg 1)) H := hP
      have hD : va_D (va_A (LW A cI cQ cL σ o f) s.heap.size) (LW A cI cQ cL u o (vp_updL f (0 : Int32).toNatClampNeg 1)) := hD
      refine lv_goto (tgt := 22) hx hb dL_hide_16 (by decide) ?_
      refine lv_iconst (v := 0) hx hb dL_hide_22 (by decide) ?_
      exact vx_ret (W.iret hx hb hr (fun t ht hW => ⟨⟨_, (u, vp_updL f (0 : Int32).toNatClampNeg 1), rfl, ⟨rfl, hpx, fun _ => (updL_0 f _).trans (show (1 : Int64) = lb r by unfold lb; rw [if_neg c0])⟩, by rw [ht]; exact hP, hD⟩, hS.F ht⟩) hS.2.2 dL_hide_23)
set_option maxHeartbeats 4000000 in
set_option maxRecDepth 100000 in
/-- execute -/
theorem w_execute (l : Launch) (dC : Nat → ClassId) (dI : Nat → Nat → Nat) (A : Nat → Nat) (cI cQ cL : ClassId) (σ : HS) (o : Nat) (f : Nat → Int64) (sz : Nat) {oE : Option String} {v k : Int32} {S : HS → Prop} (hC : CRes l dC dI A cI cQ σ yX3_execute wsX3_execute [.ref (A 0)] oE v S) (hk0 : (oE = none ∧ k = 0) ∨ ∃ j, j < 1 ∧ oE = ([nIS] : List String)[j]? ∧ k = nI (j + 1)) :
    Met l yL_execute wsL_execute RMw (va_Pc [.ref (A 0), .ref o] (LF dC dI A cI cQ cL sz σ o f)) (va_Qi (fun (r : Int32) (u : HS × (Nat → Int64)) => r = k ∧ S u.1 ∧ (oE = none → u.2 0 = lb v)) (LB dC dI A cI cQ cL o (va_A (LW A cI cQ cL σ o f) sz)) (va_A (LW A cI cQ cL σ o f) sz)) 1 6 (va_A (LW A cI cQ cL σ o f) sz) := by
  refine met_of (vx_ofWH (cc := cL_execute) (maxL := 3) (ret := some .int) (by decide) rfl ?_)
  intro p e s m args below meth c s₁ B hml hv
  obtain ⟨rfl, hsz, hP, hX, hKL, hD0, hH, hN⟩ := hv
  subst hsz
  have hx := B.exec
  have hb := B.bytes
  have hr := B.returns
  have hts := atoms_spec (ws := wsL_execute) B.pre
  have hown : s.vm.findClass RL = some m.cls := findClass_of_methodNamed B.named
  have htb := vx_table (x := yL_execute) B (hts _ List.mem_cons_self)
  have hK := hX.1
  have hPc := ap_P hP
  have hDc := ap_D hD0
  have hHc : HX (va_A (hfW A cI cQ σ) s.heap.size) s s.heap := hH.narrow fun q h => ap_A h
  have hFc : ∀ q, va_A (hfW A cI cQ σ) s.heap.size q → va_A (LW A cI cQ cL σ o f) s.heap.size q := fun q h => ap_A h
  have hS : va_S (va_A (LW A cI cQ cL σ o f) s.heap.size) s.heap s.heap [] := va_S.rf
  have hl := lv_entry ([.ref (A 0), .ref o]) (n := 3) (Nat.le_of_ble_eq_true rfl)
  rw [lg_entry_eq]
  generalize (lg_sl ([.ref (A 0), .ref o]) ++ List.replicate (3 - (lg_sl ([.ref (A 0), .ref o])).length) Slot.unset).toArray = ls at hl ⊢
  have hl : lv_has ls 3 [(0, .ref (A 0)), (1, .ref o)] := hl
  refine lv_aload_n hx hb dL_execute_0 rfl (lv_at hl 1 rfl) ?_
  refine lv_iconst (v := 0) hx hb dL_execute_1 (by decide) ?_
  refine lv_aload_n hx hb dL_execute_2 rfl (lv_at hl 0 rfl) ?_
  refine vx_calli (vx_runV (As := []) (rest := [.int 0, .ref o]) ⟨hx, hb, hml, hown, hts⟩ (hC s.heap.size) (cwV 0 hts gL_execute_X3_execute rfl rfl rfl (by decide +kernel) ⟨Nat.le_of_ble_eq_true rfl, Nat.le_of_ble_eq_true rfl⟩) ⟨bl_FX, va_recv hK hPc (ci := 3) (q0 := 0) rfl rfl, fun U hU hW => ⟨rfl, ⟨by rw [hU], by rw [hU]; exact hPc, hX.warm hW, hDc⟩, by rw [hU]; exact HX.moved hW.alike hHc⟩⟩ rfl rfl hl.1 rfl (lv_room (Nat.le_of_ble_eq_true rfl)) dL_execute_3 ⟨Nat.le_of_ble_eq_true rfl, Nat.le_of_ble_eq_true rfl⟩) hS (fun q _ h => hFc q h) hFc (fun q _ h => hFc q h) ?_ ?_
  · intro E ce q9 u t H locs ht hvm hpx hBX hz1 hk1 hS hcell hcv hcl
    obtain ⟨hE, hP1, hD1⟩ := hBX
    rw [ht] at hP1
    obtain ⟨hP, hD⟩ := fr_L (r := [(o, .inl (cL, 1, .inr (.inl f)))]) rfl hP hD0 hP1 hD1 hk1
    rcases hk0 with ⟨z, -⟩ | ⟨j, hj, z, rfl⟩
    · exact absurd (hE.symm.trans z) (Option.some_ne_none E)
    · obtain rfl : j = 0 := by omega
      obtain rfl : E = nIS := Option.some.inj (hE.symm.trans z)
      refine vx_catch (own := RL) (name := nIS) hown [] ⟨0, 15, 18, 23⟩ [] htb (fun z hz => nomatch hz) rfl (by decide) (hts _ (List.mem_of_getElem? (i := 1) rfl)) (hX.xb _ _ (List.mem_of_getElem? (i := 15) rfl)) hcell hcv hcl ?_
      refine lv_astore_n (lv' := [(2, .ref q9), (0, .ref (A 0)), (1, .ref o)]) hx hb dL_execute_18 rfl hl (by decide) rfl (fun ls hl => ?_)
      refine lv_iconst (v := 1) hx hb dL_execute_19 (by decide) ?_
      exact vx_ret (W.iret hx hb hr (fun t ht hW => ⟨⟨_, (u, f), rfl, ⟨rfl, hpx, fun z2 => absurd (hE.symm.trans z2) (Option.some_ne_none _)⟩, by rw [ht]; exact hP, hD⟩, hS.F ht⟩) hS.2.2 dL_execute_20)
  · intro r u t H locs ht hvm hw hB hz1 hk1 hS
    obtain ⟨hE, hrv, hpx⟩ := hw
    subst hrv
    obtain ⟨hP1, hD1⟩ := hB
    rw [ht] at hP1
    obtain ⟨hP, hD⟩ := fr_L (r := [(o, .inl (cL, 1, .inr (.inl f)))]) rfl hP hD0 hP1 hD1 hk1
    have ek : k = 0 := by
      rcases hk0 with ⟨_, z⟩ | ⟨j, hj, z, _⟩
      · exact z
      · obtain rfl : j = 0 := by omega
        cases hE.symm.trans z
    subst ek
    refine lv_if_eq (tgt := 13) hx hb dL_execute_6 (by decide) (fun c0 => ?_) (fun c0 => ?_)
    · refine lv_lconst (v := 0) hx hb dL_execute_13 rfl ?_
      refine va_last hx hb hKL hP hD hS 24 0 rfl rfl in01 dL_execute_14 (fun H locs hP hD hS => ?_)
      have hP : va_P (dC, dI) vwCl (LW A cI cQ cL u o (vp_updL f (0 : Int32).toNatClampNeg 0)) H := hP
      have hD : va_D (va_A (LW A cI cQ cL σ o f) s.heap.size) (LW A cI cQ cL u o (vp_updL f (0 : Int32).toNatClampNeg 0)) := hD
      refine lv_goto (tgt := 21) hx hb dL_execute_15 (by decide) ?_
      refine lv_iconst (v := 0) hx hb dL_execute_21 (by decide) ?_
      exact vx_ret (W.iret hx hb hr (fun t ht hW => ⟨⟨_, (u, vp_updL f (0 : Int32).toNatClampNeg 0), rfl, ⟨rfl, hpx, fun _ => (updL_0 f _).trans (show (0 : Int64) = lb r by unfold lb; rw [if_pos c0])⟩, by rw [ht]; exact hP, hD⟩, hS.F ht⟩) hS.2.2 dL_execute_22)
    · refine lv_lconst (v := 1) hx hb dL_execute_9 rfl ?_
      refine lv_goto (tgt := 14) hx hb dL_execute_10 (by decide) ?_
      refine va_last hx hb hKL hP hD hS 24 0 rfl rfl in01 dL_execute_14 (fun H locs hP hD hS => ?_)
      have hP : va_P (dC, dI) vwCl (LW A cI cQ cL u o (vp_updL f (0 : Int32).toNatClampNeg 1)) H := hP
      have hD : va_D (va_A (LW A cI cQ cL σ o f) s.heap.size) (LW A cI cQ cL u o (vp_updL f (0 : Int32).toNatClampNeg 1)) := hD
      refine lv_goto (tgt := 21) hx hb dL_execute_15 (by decide) ?_
      refine lv_iconst (v := 0) hx hb dL_execute_21 (by decide) ?_
      exact vx_ret (W.iret hx hb hr (fun t ht hW => ⟨⟨_, (u, vp_updL f (0 : Int32).toNatClampNeg 1), rfl, ⟨rfl, hpx, fun _ => (updL_0 f _).trans (show (1 : Int64) = lb r by unfold lb; rw [if_neg c0])⟩, by rw [ht]; exact hP, hD⟩, hS.F ht⟩) hS.2.2 dL_execute_22)
set_option maxHeartbeats 4000000 in
set_option maxRecDepth 100000 in
/-- trace -/
theorem w_trace (l : Launch) (dC : Nat → ClassId) (dI : Nat → Nat → Nat) (A : Nat → Nat) (cI cQ cL : ClassId) (σ : HS) (x : Int32) (o : Nat) (f : Nat → Int64) (sz : Nat) {oE : Option String} {v k : Int32} {S : HS → Prop} (hC : CRes l dC dI A cI cQ σ yX3_trace wsX3_trace [.ref (A 0), .int x] oE v S) (hk0 : (oE = none ∧ k = 0) ∨ ∃ j, j < 1 ∧ oE = ([nIO] : List String)[j]? ∧ k = nI (j + 1)) :
    Met l yL_trace wsL_trace RMw (va_Pc [.ref (A 0), .int x, .ref o] (LF dC dI A cI cQ cL sz σ o f)) (va_Qi (fun (r : Int32) (u : HS × (Nat → Int64)) => r = k ∧ S u.1 ∧ (oE = none → u.2 0 = v.toInt64)) (LB dC dI A cI cQ cL o (va_A (LW A cI cQ cL σ o f) sz)) (va_A (LW A cI cQ cL σ o f) sz)) 1 6 (va_A (LW A cI cQ cL σ o f) sz) := by
  refine met_of (vx_ofWH (cc := cL_trace) (maxL := 4) (ret := some .int) (by decide) rfl ?_)
  intro p e s m args below meth c s₁ B hml hv
  obtain ⟨rfl, hsz, hP, hX, hKL, hD0, hH, hN⟩ := hv
  subst hsz
  have hx := B.exec
  have hb := B.bytes
  have hr := B.returns
  have hts := atoms_spec (ws := wsL_trace) B.pre
  have hown : s.vm.findClass RL = some m.cls := findClass_of_methodNamed B.named
  have htb := vx_table (x := yL_trace) B (hts _ List.mem_cons_self)
  have hK := hX.1
  have hPc := ap_P hP
  have hDc := ap_D hD0
  have hHc : HX (va_A (hfW A cI cQ σ) s.heap.size) s s.heap := hH.narrow fun q h => ap_A h
  have hFc : ∀ q, va_A (hfW A cI cQ σ) s.heap.size q → va_A (LW A cI cQ cL σ o f) s.heap.size q := fun q h => ap_A h
  have hS : va_S (va_A (LW A cI cQ cL σ o f) s.heap.size) s.heap s.heap [] := va_S.rf
  have hl := lv_entry ([.ref (A 0), .int x, .ref o]) (n := 4) (Nat.le_of_ble_eq_true rfl)
  rw [lg_entry_eq]
  generalize (lg_sl ([.ref (A 0), .int x, .ref o]) ++ List.replicate (4 - (lg_sl ([.ref (A 0), .int x, .ref o])).length) Slot.unset).toArray = ls at hl ⊢
  have hl : lv_has ls 4 [(0, .ref (A 0)), (1, .int x), (2, .ref o)] := hl
  refine lv_aload_n hx hb dL_trace_0 rfl (lv_at hl 2 rfl) ?_
  refine lv_iconst (v := 0) hx hb dL_trace_1 (by decide) ?_
  refine lv_aload_n hx hb dL_trace_2 rfl (lv_at hl 0 rfl) ?_
  refine lv_iload_n hx hb dL_trace_3 rfl (lv_at hl 1 rfl) ?_
  refine vx_calli (vx_runV (As := [.int x]) (rest := [.int 0, .ref o]) ⟨hx, hb, hml, hown, hts⟩ (hC s.heap.size) (cwV 1 hts gL_trace_X3_trace rfl rfl rfl (by decide +kernel) ⟨Nat.le_of_ble_eq_true rfl, Nat.le_of_ble_eq_true rfl⟩) ⟨bl_FX, va_recv hK hPc (ci := 3) (q0 := 0) rfl rfl, fun U hU hW => ⟨rfl, ⟨by rw [hU], by rw [hU]; exact hPc, hX.warm hW, hDc⟩, by rw [hU]; exact HX.moved hW.alike hHc⟩⟩ rfl rfl hl.1 rfl (lv_room (Nat.le_of_ble_eq_true rfl)) dL_trace_4 ⟨Nat.le_of_ble_eq_true rfl, Nat.le_of_ble_eq_true rfl⟩) hS (fun q _ h => hFc q h) hFc (fun q _ h => hFc q h) ?_ ?_
  · intro E ce q9 u t H locs ht hvm hpx hBX hz1 hk1 hS hcell hcv hcl
    obtain ⟨hE, hP1, hD1⟩ := hBX
    rw [ht] at hP1
    obtain ⟨hP, hD⟩ := fr_L (r := [(o, .inl (cL, 1, .inr (.inl f)))]) rfl hP hD0 hP1 hD1 hk1
    rcases hk0 with ⟨z, -⟩ | ⟨j, hj, z, rfl⟩
    · exact absurd (hE.symm.trans z) (Option.some_ne_none E)
    · obtain rfl : j = 0 := by omega
      obtain rfl : E = nIO := Option.some.inj (hE.symm.trans z)
      refine vx_catch (own := RL) (name := nIO) hown [] ⟨0, 9, 12, 13⟩ [] htb (fun z hz => nomatch hz) rfl (by decide) (hts _ (List.mem_of_getElem? (i := 1) rfl)) (hX.xb _ _ (List.mem_of_getElem? (i := 13) rfl)) hcell hcv hcl ?_
      refine lv_astore_n (lv' := [(3, .ref q9), (0, .ref (A 0)), (1, .int x), (2, .ref o)]) hx hb dL_trace_12 rfl hl (by decide) rfl (fun ls hl => ?_)
      refine lv_iconst (v := 1) hx hb dL_trace_13 (by decide) ?_
      exact vx_ret (W.iret hx hb hr (fun t ht hW => ⟨⟨_, (u, f), rfl, ⟨rfl, hpx, fun z2 => absurd (hE.symm.trans z2) (Option.some_ne_none _)⟩, by rw [ht]; exact hP, hD⟩, hS.F ht⟩) hS.2.2 dL_trace_14)
  · intro r u t H locs ht hvm hw hB hz1 hk1 hS
    obtain ⟨hE, hrv, hpx⟩ := hw
    subst hrv
    obtain ⟨hP1, hD1⟩ := hB
    rw [ht] at hP1
    obtain ⟨hP, hD⟩ := fr_L (r := [(o, .inl (cL, 1, .inr (.inl f)))]) rfl hP hD0 hP1 hD1 hk1
    have ek : k = 0 := by
      rcases hk0 with ⟨_, z⟩ | ⟨j, hj, z, _⟩
      · exact z
      · obtain rfl : j = 0 := by omega
        cases hE.symm.trans z
    subst ek
    refine lv_i2l (v := r.toInt64) hx hb dL_trace_7 rfl ?_
    refine va_last hx hb hKL hP hD hS 24 0 rfl rfl in01 dL_trace_8 (fun H locs hP hD hS => ?_)
    have hP : va_P (dC, dI) vwCl (LW A cI cQ cL u o (vp_updL f (0 : Int32).toNatClampNeg r.toInt64)) H := hP
    have hD : va_D (va_A (LW A cI cQ cL σ o f) s.heap.size) (LW A cI cQ cL u o (vp_updL f (0 : Int32).toNatClampNeg r.toInt64)) := hD
    refine lv_goto (tgt := 15) hx hb dL_trace_9 (by decide) ?_
    refine lv_iconst (v := 0) hx hb dL_trace_15 (by decide) ?_
    exact vx_ret (W.iret hx hb hr (fun t ht hW => ⟨⟨_, (u, vp_updL f (0 : Int32).toNatClampNeg r.toInt64), rfl, ⟨rfl, hpx, fun _ => (updL_0 f _).trans rfl⟩, by rw [ht]; exact hP, hD⟩, hS.F ht⟩) hS.2.2 dL_trace_16)
set_option maxHeartbeats 4000000 in
set_option maxRecDepth 100000 in
/-- twins -/
theorem w_twins (l : Launch) (dC : Nat → ClassId) (dI : Nat → Nat → Nat) (A : Nat → Nat) (cI cQ cL : ClassId) (σ : HS) (o : Nat) (f : Nat → Int64) (sz : Nat) {oE : Option String} {v k : Int32} {S : HS → Prop} (hC : CRes l dC dI A cI cQ σ yX3_twins wsX3_twins [.ref (A 0)] oE v S) (hk0 : (oE = none ∧ k = 0) ∨ ∃ j, j < 1 ∧ oE = ([nNS] : List String)[j]? ∧ k = nI (j + 1)) :
    Met l yL_twins wsL_twins RMw (va_Pc [.ref (A 0), .ref o] (LF dC dI A cI cQ cL sz σ o f)) (va_Qi (fun (r : Int32) (u : HS × (Nat → Int64)) => r = k ∧ S u.1 ∧ (oE = none → u.2 0 = v.toInt64)) (LB dC dI A cI cQ cL o (va_A (LW A cI cQ cL σ o f) sz)) (va_A (LW A cI cQ cL σ o f) sz)) 1 6 (va_A (LW A cI cQ cL σ o f) sz) := by
  refine met_of (vx_ofWH (cc := cL_twins) (maxL := 3) (ret := some .int) (by decide) rfl ?_)
  intro p e s m args below meth c s₁ B hml hv
  obtain ⟨rfl, hsz, hP, hX, hKL, hD0, hH, hN⟩ := hv
  subst hsz
  have hx := B.exec
  have hb := B.bytes
  have hr := B.returns
  have hts := atoms_spec (ws := wsL_twins) B.pre
  have hown : s.vm.findClass RL = some m.cls := findClass_of_methodNamed B.named
  have htb := vx_table (x := yL_twins) B (hts _ List.mem_cons_self)
  have hK := hX.1
  have hPc := ap_P hP
  have hDc := ap_D hD0
  have hHc : HX (va_A (hfW A cI cQ σ) s.heap.size) s s.heap := hH.narrow fun q h => ap_A h
  have hFc : ∀ q, va_A (hfW A cI cQ σ) s.heap.size q → va_A (LW A cI cQ cL σ o f) s.heap.size q := fun q h => ap_A h
  have hS : va_S (va_A (LW A cI cQ cL σ o f) s.heap.size) s.heap s.heap [] := va_S.rf
  have hl := lv_entry ([.ref (A 0), .ref o]) (n := 3) (Nat.le_of_ble_eq_true rfl)
  rw [lg_entry_eq]
  generalize (lg_sl ([.ref (A 0), .ref o]) ++ List.replicate (3 - (lg_sl ([.ref (A 0), .ref o])).length) Slot.unset).toArray = ls at hl ⊢
  have hl : lv_has ls 3 [(0, .ref (A 0)), (1, .ref o)] := hl
  refine lv_aload_n hx hb dL_twins_0 rfl (lv_at hl 1 rfl) ?_
  refine lv_iconst (v := 0) hx hb dL_twins_1 (by decide) ?_
  refine lv_aload_n hx hb dL_twins_2 rfl (lv_at hl 0 rfl) ?_
  refine vx_calli (vx_runV (As := []) (rest := [.int 0, .ref o]) ⟨hx, hb, hml, hown, hts⟩ (hC s.heap.size) (cwV 0 hts gL_twins_X3_twins rfl rfl rfl (by decide +kernel) ⟨Nat.le_of_ble_eq_true rfl, Nat.le_of_ble_eq_true rfl⟩) ⟨bl_FX, va_recv hK hPc (ci := 3) (q0 := 0) rfl rfl, fun U hU hW => ⟨rfl, ⟨by rw [hU], by rw [hU]; exact hPc, hX.warm hW, hDc⟩, by rw [hU]; exact HX.moved hW.alike hHc⟩⟩ rfl rfl hl.1 rfl (lv_room (Nat.le_of_ble_eq_true rfl)) dL_twins_3 ⟨Nat.le_of_ble_eq_true rfl, Nat.le_of_ble_eq_true rfl⟩) hS (fun q _ h => hFc q h) hFc (fun q _ h => hFc q h) ?_ ?_
  · intro E ce q9 u t H locs ht hvm hpx hBX hz1 hk1 hS hcell hcv hcl
    obtain ⟨hE, hP1, hD1⟩ := hBX
    rw [ht] at hP1
    obtain ⟨hP, hD⟩ := fr_L (r := [(o, .inl (cL, 1, .inr (.inl f)))]) rfl hP hD0 hP1 hD1 hk1
    rcases hk0 with ⟨z, -⟩ | ⟨j, hj, z, rfl⟩
    · exact absurd (hE.symm.trans z) (Option.some_ne_none E)
    · obtain rfl : j = 0 := by omega
      obtain rfl : E = nNS := Option.some.inj (hE.symm.trans z)
      refine vx_catch (own := RL) (name := nNS) hown [] ⟨0, 8, 11, 21⟩ [] htb (fun z hz => nomatch hz) rfl (by decide) (hts _ (List.mem_of_getElem? (i := 1) rfl)) (hX.xb _ _ (List.mem_of_getElem? (i := 17) rfl)) hcell hcv hcl ?_
      refine lv_astore_n (lv' := [(2, .ref q9), (0, .ref (A 0)), (1, .ref o)]) hx hb dL_twins_11 rfl hl (by decide) rfl (fun ls hl => ?_)
      refine lv_iconst (v := 1) hx hb dL_twins_12 (by decide) ?_
      exact vx_ret (W.iret hx hb hr (fun t ht hW => ⟨⟨_, (u, f), rfl, ⟨rfl, hpx, fun z2 => absurd (hE.symm.trans z2) (Option.some_ne_none _)⟩, by rw [ht]; exact hP, hD⟩, hS.F ht⟩) hS.2.2 dL_twins_13)
  · intro r u t H locs ht hvm hw hB hz1 hk1 hS
    obtain ⟨hE, hrv, hpx⟩ := hw
    subst hrv
    obtain ⟨hP1, hD1⟩ := hB
    rw [ht] at hP1
    obtain ⟨hP, hD⟩ := fr_L (r := [(o, .inl (cL, 1, .inr (.inl f)))]) rfl hP hD0 hP1 hD1 hk1
    have ek : k = 0 := by
      rcases hk0 with ⟨_, z⟩ | ⟨j, hj, z, _⟩
      · exact z
      · obtain rfl : j = 0 := by omega
        cases hE.symm.trans z
    subst ek
    refine lv_i2l (v := r.toInt64) hx hb dL_twins_6 rfl ?_
    refine va_last hx hb hKL hP hD hS 24 0 rfl rfl in01 dL_twins_7 (fun H locs hP hD hS => ?_)
    have hP : va_P (dC, dI) vwCl (LW A cI cQ cL u o (vp_updL f (0 : Int32).toNatClampNeg r.toInt64)) H := hP
    have hD : va_D (va_A (LW A cI cQ cL σ o f) s.heap.size) (LW A cI cQ cL u o (vp_updL f (0 : Int32).toNatClampNeg r.toInt64)) := hD
    refine lv_goto (tgt := 14) hx hb dL_twins_8 (by decide) ?_
    refine lv_iconst (v := 0) hx hb dL_twins_14 (by decide) ?_
    exact vx_ret (W.iret hx hb hr (fun t ht hW => ⟨⟨_, (u, vp_updL f (0 : Int32).toNatClampNeg r.toInt64), rfl, ⟨rfl, hpx, fun _ => (updL_0 f _).trans rfl⟩, by rw [ht]; exact hP, hD⟩, hS.F ht⟩) hS.2.2 dL_twins_15)
