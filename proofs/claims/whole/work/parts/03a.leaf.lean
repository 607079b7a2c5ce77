set_option maxHeartbeats 4000000 in
set_option maxRecDepth 100000 in
/-- isIn(state, belief): that bit of the belief -/
theorem c_X3_isIn (l : Launch) {k : Nat} (hk : k < 32) (b : Int32) : Met l yX3_isIn wsX3_isIn ({ frames := 0, cells := 0, slots := 0, locals := 0 }) (va_Pc [.int (nI k), .int b] (fun _ => True)) (vp_Si (fun r => r = b2i (bt b k))) 0 0 (fun _ => False) := by
  refine Met.ofW (cc := cX3_isIn) (maxL := 2) (ret := (some .boolean)) (by decide) rfl ?_
  intro p e s m args below meth c s₁ B hml hv
  obtain ⟨rfl, -⟩ := hv
  have hx := B.exec
  have hb := B.bytes
  have hr := B.returns
  have hts := atoms_spec (ws := wsX3_isIn) B.pre
  have hown : s.vm.findClass RX3 = some m.cls := findClass_of_methodNamed B.named
  have hlocks := B.notSynchronized
  have hl := lv_entry ([.int (nI k), .int b]) (n := 2) (Nat.le_of_ble_eq_true rfl)
  rw [lg_entry_eq]
  generalize (lg_sl ([.int (nI k), .int b]) ++ List.replicate (2 - (lg_sl ([.int (nI k), .int b])).length) Slot.unset).toArray = ls at hl ⊢
  have hl : lv_has ls 2 [(0, .int (nI k)), (1, .int b)] := hl
  refine lv_iload_n hx hb dX3_isIn_0 rfl (lv_at hl 1 rfl) ?_
  refine lv_iload_n hx hb dX3_isIn_1 rfl (lv_at hl 0 rfl) ?_
  refine lv_ishr hx hb dX3_isIn_2 ?_
  refine lv_iconst (v := 1) hx hb dX3_isIn_3 (by decide) ?_
  refine lv_iand hx hb dX3_isIn_4 ?_
  refine lv_if_eq (tgt := 12) hx hb dX3_isIn_5 (by decide) (fun c5_0 => ?_) (fun c5_0 => ?_)
  · skip
    refine lv_iconst (v := 0) hx hb dX3_isIn_12 (by decide) ?_
    exact W.zret (v := 0) hx hb hr rfl (fun t ht hW => ⟨0, rfl, by rw [b_shr1 hk] at c5_0; cases hq : bt b k <;> simp [hq, b2i] at c5_0 ⊢, ht⟩) (fun q h => nomatch h) dX3_isIn_13
  · skip
    refine lv_iconst (v := 1) hx hb dX3_isIn_8 (by decide) ?_
    refine lv_goto (tgt := 13) hx hb dX3_isIn_9 (by decide) ?_
    exact W.zret (v := 1) hx hb hr rfl (fun t ht hW => ⟨1, rfl, by rw [b_shr1 hk] at c5_0; cases hq : bt b k <;> simp [hq, b2i] at c5_0 ⊢, ht⟩) (fun q h => nomatch h) dX3_isIn_13
set_option maxHeartbeats 4000000 in
set_option maxRecDepth 100000 in
/-- demanded(mask, value): the states in which the demand holds -/
theorem c_X3_demanded (l : Launch) (p0 p1 : Int32) : Met l yX3_demanded wsX3_demanded ({ frames := 0, cells := 0, slots := 0, locals := 0 }) (va_Pc [.int p0, .int p1] (fun _ => True)) (vp_Si (fun r => r = mk (fun k => decide ((nI k &&& p0) = (p1 &&& p0))))) 0 0 (fun _ => False) := by
  refine Met.ofW (cc := cX3_demanded) (maxL := 4) (ret := (some .int)) (by decide) rfl ?_
  intro p e s m args below meth c s₁ B hml hv
  obtain ⟨rfl, -⟩ := hv
  have hx := B.exec
  have hb := B.bytes
  have hr := B.returns
  have hts := atoms_spec (ws := wsX3_demanded) B.pre
  have hown : s.vm.findClass RX3 = some m.cls := findClass_of_methodNamed B.named
  have hlocks := B.notSynchronized
  have hl := lv_entry ([.int p0, .int p1]) (n := 4) (Nat.le_of_ble_eq_true rfl)
  rw [lg_entry_eq]
  generalize (lg_sl ([.int p0, .int p1]) ++ List.replicate (4 - (lg_sl ([.int p0, .int p1])).length) Slot.unset).toArray = ls at hl ⊢
  have hl : lv_has ls 4 [(0, .int p0), (1, .int p1)] := hl
  refine lv_iconst (v := 0) hx hb dX3_demanded_0 (by decide) ?_
  refine lv_istore_n (lv' := [(2, .int 0), (0, .int p0), (1, .int p1)]) hx hb dX3_demanded_1 rfl hl (by decide) rfl (fun ls hl => ?_)
  refine lv_iconst (v := 0) hx hb dX3_demanded_2 (by decide) ?_
  refine lv_istore_n (lv' := [(3, .int 0), (2, .int 0), (0, .int p0), (1, .int p1)]) hx hb dX3_demanded_3 rfl hl (by decide) rfl (fun ls hl => ?_)
  refine w_loopP (pc := 4) 16 (fun k ls => lv_has ls 4 [(0, .int p0), (1, .int p1), (2, .int (mkN (fun k => decide ((nI k &&& p0) = (p1 &&& p0))) k)), (3, .int (nI k))]) ?_ 0 (Nat.zero_le _) ls (lv_sub hl [2, 3, 1, 0] rfl)
  clear hl ls
  intro k ls hk hl ih
  refine lv_iload_n hx hb dX3_demanded_4 rfl (lv_at hl 3 rfl) ?_
  refine lv_bipush (v := 16) hx hb dX3_demanded_5 (by decide) ?_
  refine lv_icmp_ge (tgt := 31) hx hb dX3_demanded_7 (by decide) (fun c7_0 => ?_) (fun c7_0 => ?_)
  · skip
    obtain rfl := ctr_ge (N := 16) rfl (by decide) hk c7_0
    refine lv_iload_n hx hb dX3_demanded_31 rfl (lv_at hl 2 rfl) ?_
    exact W.iret hx hb hr (fun t ht hW => ⟨_, rfl, rfl, ht⟩) (fun q h => nomatch h) dX3_demanded_32
  · skip
    have hlt := ctr_lt (N := 16) rfl (by decide) hk c7_0
    refine lv_iload_n hx hb dX3_demanded_10 rfl (lv_at hl 3 rfl) ?_
    refine lv_iload_n hx hb dX3_demanded_11 rfl (lv_at hl 0 rfl) ?_
    refine lv_iand hx hb dX3_demanded_12 ?_
    refine lv_iload_n hx hb dX3_demanded_13 rfl (lv_at hl 1 rfl) ?_
    refine lv_iload_n hx hb dX3_demanded_14 rfl (lv_at hl 0 rfl) ?_
    refine lv_iand hx hb dX3_demanded_15 ?_
    refine lv_icmp_ne (tgt := 25) hx hb dX3_demanded_16 (by decide) (fun c16_1 => ?_) (fun c16_1 => ?_)
    · skip
      obtain ⟨y2, ey2⟩ : ∃ y : Int32, y = (nI k) + 1 := ⟨_, rfl⟩
      refine lv_iinc (v := y2) (lv' := [(3, .int y2), (0, .int p0), (1, .int p1), (2, .int (mkN (fun k => decide ((nI k &&& p0) = (p1 &&& p0))) k))]) hx hb dX3_demanded_25 hl (k := 3) rfl (by rw [ey2]; rfl) (by decide) rfl (fun ls hl => ?_)
      obtain rfl : y2 = nI (k + 1) := ey2.trans (nI_1 k)
      refine lv_goto (tgt := 4) hx hb dX3_demanded_28 (by decide) ?_
      exact ih ls (by rw [mkN_f (f := (fun k => decide ((nI k &&& p0) = (p1 &&& p0)))) (n := k) (decide_eq_false c16_1)]; exact lv_sub hl [1, 2, 3, 0] rfl) hlt
    · skip
      refine lv_iload_n hx hb dX3_demanded_19 rfl (lv_at hl 2 rfl) ?_
      refine lv_iconst (v := 1) hx hb dX3_demanded_20 (by decide) ?_
      refine lv_iload_n hx hb dX3_demanded_21 rfl (lv_at hl 3 rfl) ?_
      refine lv_ishl hx hb dX3_demanded_22 ?_
      refine lv_ior hx hb dX3_demanded_23 ?_
      refine lv_istore_n (lv' := [(2, .int ((mkN (fun k => decide ((nI k &&& p0) = (p1 &&& p0))) k) ||| (1 <<< ((nI k) &&& 31)))), (0, .int p0), (1, .int p1), (3, .int (nI k))]) hx hb dX3_demanded_24 rfl hl (by decide) rfl (fun ls hl => ?_)
      obtain ⟨y3, ey3⟩ : ∃ y : Int32, y = (nI k) + 1 := ⟨_, rfl⟩
      refine lv_iinc (v := y3) (lv' := [(3, .int y3), (2, .int ((mkN (fun k => decide ((nI k &&& p0) = (p1 &&& p0))) k) ||| (1 <<< ((nI k) &&& 31)))), (0, .int p0), (1, .int p1)]) hx hb dX3_demanded_25 hl (k := 3) rfl (by rw [ey3]; rfl) (by decide) rfl (fun ls hl => ?_)
      obtain rfl : y3 = nI (k + 1) := ey3.trans (nI_1 k)
      refine lv_goto (tgt := 4) hx hb dX3_demanded_28 (by decide) ?_
      exact ih ls (by rw [mkN_t (f := (fun k => decide ((nI k &&& p0) = (p1 &&& p0)))) (n := k) (decide_eq_true c16_1)]; exact lv_sub hl [2, 3, 1, 0] rfl) hlt
set_option maxHeartbeats 4000000 in
set_option maxRecDepth 100000 in
/-- allowed(trues, falses): the states in which the clause holds -/
theorem c_X3_allowed (l : Launch) (p0 p1 : Int32) : Met l yX3_allowed wsX3_allowed ({ frames := 0, cells := 0, slots := 0, locals := 0 }) (va_Pc [.int p0, .int p1] (fun _ => True)) (vp_Si (fun r => r = mk (fun k => decide ((nI k &&& p0) ≠ 0) || decide (((nI k ^^^ (-1)) &&& p1) ≠ 0)))) 0 0 (fun _ => False) := by
  refine Met.ofW (cc := cX3_allowed) (maxL := 4) (ret := (some .int)) (by decide) rfl ?_
  intro p e s m args below meth c s₁ B hml hv
  obtain ⟨rfl, -⟩ := hv
  have hx := B.exec
  have hb := B.bytes
  have hr := B.returns
  have hts := atoms_spec (ws := wsX3_allowed) B.pre
  have hown : s.vm.findClass RX3 = some m.cls := findClass_of_methodNamed B.named
  have hlocks := B.notSynchronized
  have hl := lv_entry ([.int p0, .int p1]) (n := 4) (Nat.le_of_ble_eq_true rfl)
  rw [lg_entry_eq]
  generalize (lg_sl ([.int p0, .int p1]) ++ List.replicate (4 - (lg_sl ([.int p0, .int p1])).length) Slot.unset).toArray = ls at hl ⊢
  have hl : lv_has ls 4 [(0, .int p0), (1, .int p1)] := hl
  refine lv_iconst (v := 0) hx hb dX3_allowed_0 (by decide) ?_
  refine lv_istore_n (lv' := [(2, .int 0), (0, .int p0), (1, .int p1)]) hx hb dX3_allowed_1 rfl hl (by decide) rfl (fun ls hl => ?_)
  refine lv_iconst (v := 0) hx hb dX3_allowed_2 (by decide) ?_
  refine lv_istore_n (lv' := [(3, .int 0), (2, .int 0), (0, .int p0), (1, .int p1)]) hx hb dX3_allowed_3 rfl hl (by decide) rfl (fun ls hl => ?_)
  refine w_loopP (pc := 4) 16 (fun k ls => lv_has ls 4 [(0, .int p0), (1, .int p1), (2, .int (mkN (fun k => decide ((nI k &&& p0) ≠ 0) || decide (((nI k ^^^ (-1)) &&& p1) ≠ 0)) k)), (3, .int (nI k))]) ?_ 0 (Nat.zero_le _) ls (lv_sub hl [2, 3, 1, 0] rfl)
  clear hl ls
  intro k ls hk hl ih
  refine lv_iload_n hx hb dX3_allowed_4 rfl (lv_at hl 3 rfl) ?_
  refine lv_bipush (v := 16) hx hb dX3_allowed_5 (by decide) ?_
  refine lv_icmp_ge (tgt := 36) hx hb dX3_allowed_7 (by decide) (fun c7_0 => ?_) (fun c7_0 => ?_)
  · skip
    obtain rfl := ctr_ge (N := 16) rfl (by decide) hk c7_0
    refine lv_iload_n hx hb dX3_allowed_36 rfl (lv_at hl 2 rfl) ?_
    exact W.iret hx hb hr (fun t ht hW => ⟨_, rfl, rfl, ht⟩) (fun q h => nomatch h) dX3_allowed_37
  · skip
    have hlt := ctr_lt (N := 16) rfl (by decide) hk c7_0
    refine lv_iload_n hx hb dX3_allowed_10 rfl (lv_at hl 3 rfl) ?_
    refine lv_iload_n hx hb dX3_allowed_11 rfl (lv_at hl 0 rfl) ?_
    refine lv_iand hx hb dX3_allowed_12 ?_
    refine lv_if_ne (tgt := 24) hx hb dX3_allowed_13 (by decide) (fun c13_1 => ?_) (fun c13_1 => ?_)
    · skip
      refine lv_iload_n hx hb dX3_allowed_24 rfl (lv_at hl 2 rfl) ?_
      refine lv_iconst (v := 1) hx hb dX3_allowed_25 (by decide) ?_
      refine lv_iload_n hx hb dX3_allowed_26 rfl (lv_at hl 3 rfl) ?_
      refine lv_ishl hx hb dX3_allowed_27 ?_
      refine lv_ior hx hb dX3_allowed_28 ?_
      refine lv_istore_n (lv' := [(2, .int ((mkN (fun k => decide ((nI k &&& p0) ≠ 0) || decide (((nI k ^^^ (-1)) &&& p1) ≠ 0)) k) ||| (1 <<< ((nI k) &&& 31)))), (0, .int p0), (1, .int p1), (3, .int (nI k))]) hx hb dX3_allowed_29 rfl hl (by decide) rfl (fun ls hl => ?_)
      obtain ⟨y2, ey2⟩ : ∃ y : Int32, y = (nI k) + 1 := ⟨_, rfl⟩
      refine lv_iinc (v := y2) (lv' := [(3, .int y2), (2, .int ((mkN (fun k => decide ((nI k &&& p0) ≠ 0) || decide (((nI k ^^^ (-1)) &&& p1) ≠ 0)) k) ||| (1 <<< ((nI k) &&& 31)))), (0, .int p0), (1, .int p1)]) hx hb dX3_allowed_30 hl (k := 3) rfl (by rw [ey2]; rfl) (by decide) rfl (fun ls hl => ?_)
      obtain rfl : y2 = nI (k + 1) := ey2.trans (nI_1 k)
      refine lv_goto (tgt := 4) hx hb dX3_allowed_33 (by decide) ?_
      exact ih ls (by rw [mkN_t (f := (fun k => decide ((nI k &&& p0) ≠ 0) || decide (((nI k ^^^ (-1)) &&& p1) ≠ 0))) (n := k) ((by rw [Bool.or_eq_true]; exact Or.inl (decide_eq_true c13_1)))]; exact lv_sub hl [2, 3, 1, 0] rfl) hlt
    · skip
      refine lv_iload_n hx hb dX3_allowed_16 rfl (lv_at hl 3 rfl) ?_
      refine lv_iconst (v := (-1)) hx hb dX3_allowed_17 (by decide) ?_
      refine lv_ixor hx hb dX3_allowed_18 ?_
      refine lv_iload_n hx hb dX3_allowed_19 rfl (lv_at hl 1 rfl) ?_
      refine lv_iand hx hb dX3_allowed_20 ?_
      refine lv_if_eq (tgt := 30) hx hb dX3_allowed_21 (by decide) (fun c21_3 => ?_) (fun c21_3 => ?_)
      · skip
        obtain ⟨y4, ey4⟩ : ∃ y : Int32, y = (nI k) + 1 := ⟨_, rfl⟩
        refine lv_iinc (v := y4) (lv' := [(3, .int y4), (0, .int p0), (1, .int p1), (2, .int (mkN (fun k => decide ((nI k &&& p0) ≠ 0) || decide (((nI k ^^^ (-1)) &&& p1) ≠ 0)) k))]) hx hb dX3_allowed_30 hl (k := 3) rfl (by rw [ey4]; rfl) (by decide) rfl (fun ls hl => ?_)
        obtain rfl : y4 = nI (k + 1) := ey4.trans (nI_1 k)
        refine lv_goto (tgt := 4) hx hb dX3_allowed_33 (by decide) ?_
        exact ih ls (by rw [mkN_f (f := (fun k => decide ((nI k &&& p0) ≠ 0) || decide (((nI k ^^^ (-1)) &&& p1) ≠ 0))) (n := k) ((by rw [Bool.or_eq_false_iff]; exact ⟨decide_eq_false (fun q => q c13_1), decide_eq_false (fun q => q c21_3)⟩))]; exact lv_sub hl [1, 2, 3, 0] rfl) hlt
      · skip
        refine lv_iload_n hx hb dX3_allowed_24 rfl (lv_at hl 2 rfl) ?_
        refine lv_iconst (v := 1) hx hb dX3_allowed_25 (by decide) ?_
        refine lv_iload_n hx hb dX3_allowed_26 rfl (lv_at hl 3 rfl) ?_
        refine lv_ishl hx hb dX3_allowed_27 ?_
        refine lv_ior hx hb dX3_allowed_28 ?_
        refine lv_istore_n (lv' := [(2, .int ((mkN (fun k => decide ((nI k &&& p0) ≠ 0) || decide (((nI k ^^^ (-1)) &&& p1) ≠ 0)) k) ||| (1 <<< ((nI k) &&& 31)))), (0, .int p0), (1, .int p1), (3, .int (nI k))]) hx hb dX3_allowed_29 rfl hl (by decide) rfl (fun ls hl => ?_)
        obtain ⟨y5, ey5⟩ : ∃ y : Int32, y = (nI k) + 1 := ⟨_, rfl⟩
        refine lv_iinc (v := y5) (lv' := [(3, .int y5), (2, .int ((mkN (fun k => decide ((nI k &&& p0) ≠ 0) || decide (((nI k ^^^ (-1)) &&& p1) ≠ 0)) k) ||| (1 <<< ((nI k) &&& 31)))), (0, .int p0), (1, .int p1)]) hx hb dX3_allowed_30 hl (k := 3) rfl (by rw [ey5]; rfl) (by decide) rfl (fun ls hl => ?_)
        obtain rfl : y5 = nI (k + 1) := ey5.trans (nI_1 k)
        refine lv_goto (tgt := 4) hx hb dX3_allowed_33 (by decide) ?_
        exact ih ls (by rw [mkN_t (f := (fun k => decide ((nI k &&& p0) ≠ 0) || decide (((nI k ^^^ (-1)) &&& p1) ≠ 0))) (n := k) ((by rw [Bool.or_eq_true]; exact Or.inr (decide_eq_true c21_3)))]; exact lv_sub hl [2, 3, 1, 0] rfl) hlt
def acS (σ : HS) : Nat → Nat → Int32 := σ.2.2.2.2.1
def nxS (σ : HS) : Nat → Nat → Int32 := σ.2.2.2.2.2
/-- is the action there, and does its condition hold in all states of b -/
def usS (σ : HS) (a : Nat) (b : Int32) : Bool := decide (acS σ a 0 ≠ 0) && decide (b &&& (acS σ a 1 ^^^ (-1)) = 0)
/-- what comes of the states below n of b -/
def afN (f : Nat → Int32) (b : Int32) : Nat → Int32
  | 0 => 0
  | n + 1 => if bt b n = true then afN f b n ||| ((1 : Int32) <<< (f n &&& 31)) else afN f b n
def afS (σ : HS) (a : Nat) (b : Int32) : Int32 := afN (nxS σ a) b 16
def paS (σ : HS) (a : Nat) (b w : Int32) : Int32 := if w = 0 then b &&& (acS σ a 2 ^^^ (-1)) else b &&& acS σ a 2
set_option maxHeartbeats 4000000 in
set_option maxRecDepth 100000 in
/-- Action.usable(belief) -/
theorem c_X0_usable (l : Launch) (dC : Nat → ClassId) (dI : Nat → Nat → Nat) (A : Nat → Nat) (cI cQ : ClassId) (σ : HS) {a : Nat} (ha : a < 8) (b : Int32) : Met l yX0_usable wsX0_usable ({ frames := 0, cells := 0, slots := 0, locals := 0 }) (va_Pc [.ref (A (8 + a)), .int b] (hfP dC dI A cI cQ σ)) (vp_Si (fun r => r = b2i (usS σ a b))) 0 0 (fun _ => False) := by
  obtain ⟨⟨cl, st, go, hi, ma⟩, ⟨ct, tc⟩, ⟨be, co, ap⟩, tr, ac, nx⟩ := σ
  refine Met.ofW (cc := cX0_usable) (maxL := 2) (ret := (some .boolean)) (by decide) rfl ?_
  intro p e s m args below meth c s₁ B hml hv
  obtain ⟨rfl, hP, hX⟩ := hv
  have hx := B.exec
  have hb := B.bytes
  have hr := B.returns
  have hts := atoms_spec (ws := wsX0_usable) B.pre
  have hown : s.vm.findClass RX0 = some m.cls := findClass_of_methodNamed B.named
  have hlocks := B.notSynchronized
  have hK := hX.1
  have hinX0 : ∀ w ∈ wsX00, w ∈ wsX0_usable := fun _ h => List.mem_cons_of_mem _ (List.mem_append_right _ h)
  have hl := lv_entry ([.ref (A (8 + a)), .int b]) (n := 2) (Nat.le_of_ble_eq_true rfl)
  rw [lg_entry_eq]
  generalize (lg_sl ([.ref (A (8 + a)), .int b]) ++ List.replicate (2 - (lg_sl ([.ref (A (8 + a)), .int b])).length) Slot.unset).toArray = ls at hl ⊢
  have hl : lv_has ls 2 [(0, .ref (A (8 + a))), (1, .int b)] := hl
  refine lv_aload_n hx hb dX0_usable_0 rfl (lv_at hl 0 rfl) ?_
  refine va_get (D := (dC, dI)) (ci := 0) (v := .int (ac a 0)) (C := RX0) (T := TX0) (N := 5) hx hb hts hinX0 hown hK hP (8 + a) (hf_act ha) rfl 0 (by decide) (hts _ (List.mem_of_getElem? (i := 1) rfl)) (fun _ h9 => h9) rfl dX0_usable_1 ?_
  refine lv_if_eq (tgt := 22) hx hb dX0_usable_4 (by decide) (fun c4_0 => ?_) (fun c4_0 => ?_)
  · skip
    refine lv_iconst (v := 0) hx hb dX0_usable_22 (by decide) ?_
    exact W.zret (v := 0) hx hb hr rfl (fun t ht hW => ⟨_, rfl, by show _ = b2i (decide (ac a 0 ≠ 0) && _); rw [decide_eq_false (fun q => q c4_0)]; rfl, ht⟩) (fun q h => nomatch h) dX0_usable_23
  · skip
    refine lv_iload_n hx hb dX0_usable_7 rfl (lv_at hl 1 rfl) ?_
    refine lv_aload_n hx hb dX0_usable_8 rfl (lv_at hl 0 rfl) ?_
    refine va_get (D := (dC, dI)) (ci := 0) (v := .int (ac a 1)) (C := RX0) (T := TX0) (N := 5) hx hb hts hinX0 hown hK hP (8 + a) (hf_act ha) rfl 1 (by decide) (hts _ (List.mem_of_getElem? (i := 2) rfl)) (fun _ h9 => h9) rfl dX0_usable_9 ?_
    refine lv_iconst (v := (-1)) hx hb dX0_usable_12 (by decide) ?_
    refine lv_ixor hx hb dX0_usable_13 ?_
    refine lv_iand hx hb dX0_usable_14 ?_
    refine lv_if_ne (tgt := 22) hx hb dX0_usable_15 (by decide) (fun c15_1 => ?_) (fun c15_1 => ?_)
    · skip
      refine lv_iconst (v := 0) hx hb dX0_usable_22 (by decide) ?_
      exact W.zret (v := 0) hx hb hr rfl (fun t ht hW => ⟨_, rfl, by show _ = b2i (decide (ac a 0 ≠ 0) && decide (b &&& (ac a 1 ^^^ (-1)) = 0)); rw [decide_eq_true c4_0, decide_eq_false c15_1]; rfl, ht⟩) (fun q h => nomatch h) dX0_usable_23
    · skip
      refine lv_iconst (v := 1) hx hb dX0_usable_18 (by decide) ?_
      refine lv_goto (tgt := 23) hx hb dX0_usable_19 (by decide) ?_
      exact W.zret (v := 1) hx hb hr rfl (fun t ht hW => ⟨_, rfl, by show _ = b2i (decide (ac a 0 ≠ 0) && decide (b &&& (ac a 1 ^^^ (-1)) = 0)); rw [decide_eq_true c4_0, decide_eq_true c15_1]; rfl, ht⟩) (fun q h => nomatch h) dX0_usable_23
set_option maxHeartbeats 4000000 in
set_option maxRecDepth 100000 in
/-- Action.part(belief, which) -/
theorem c_X0_part (l : Launch) (dC : Nat → ClassId) (dI : Nat → Nat → Nat) (A : Nat → Nat) (cI cQ : ClassId) (σ : HS) {a : Nat} (ha : a < 8) (b w : Int32) : Met l yX0_part wsX0_part ({ frames := 0, cells := 0, slots := 0, locals := 0 }) (va_Pc [.ref (A (8 + a)), .int b, .int w] (hfP dC dI A cI cQ σ)) (vp_Si (fun r => r = paS σ a b w)) 0 0 (fun _ => False) := by
  obtain ⟨⟨cl, st, go, hi, ma⟩, ⟨ct, tc⟩, ⟨be, co, ap⟩, tr, ac, nx⟩ := σ
  refine Met.ofW (cc := cX0_part) (maxL := 3) (ret := (some .int)) (by decide) rfl ?_
  intro p e s m args below meth c s₁ B hml hv
  obtain ⟨rfl, hP, hX⟩ := hv
  have hx := B.exec
  have hb := B.bytes
  have hr := B.returns
  have hts := atoms_spec (ws := wsX0_part) B.pre
  have hown : s.vm.findClass RX0 = some m.cls := findClass_of_methodNamed B.named
  have hlocks := B.notSynchronized
  have hK := hX.1
  have hinX0 : ∀ w ∈ wsX00, w ∈ wsX0_part := fun _ h => List.mem_cons_of_mem _ (List.mem_append_right _ h)
  have hl := lv_entry ([.ref (A (8 + a)), .int b, .int w]) (n := 3) (Nat.le_of_ble_eq_true rfl)
  rw [lg_entry_eq]
  generalize (lg_sl ([.ref (A (8 + a)), .int b, .int w]) ++ List.replicate (3 - (lg_sl ([.ref (A (8 + a)), .int b, .int w])).length) Slot.unset).toArray = ls at hl ⊢
  have hl : lv_has ls 3 [(0, .ref (A (8 + a))), (1, .int b), (2, .int w)] := hl
  refine lv_iload_n hx hb dX0_part_0 rfl (lv_at hl 2 rfl) ?_
  refine lv_if_ne (tgt := 15) hx hb dX0_part_1 (by decide) (fun c1_0 => ?_) (fun c1_0 => ?_)
  · skip
    refine lv_iload_n hx hb dX0_part_15 rfl (lv_at hl 1 rfl) ?_
    refine lv_aload_n hx hb dX0_part_16 rfl (lv_at hl 0 rfl) ?_
    refine va_get (D := (dC, dI)) (ci := 0) (v := .int (ac a 2)) (C := RX0) (T := TX0) (N := 5) hx hb hts hinX0 hown hK hP (8 + a) (hf_act ha) rfl 2 (by decide) (hts _ (List.mem_of_getElem? (i := 1) rfl)) (fun _ h9 => h9) rfl dX0_part_17 ?_
    refine lv_iand hx hb dX0_part_20 ?_
    exact W.iret (v := b &&& (ac a 2)) hx hb hr (fun t ht hW => ⟨_, rfl, by show _ = paS (_, _, _, _, ac, nx) a b w; unfold paS; rw [if_neg c1_0]; rfl, ht⟩) (fun q h => nomatch h) dX0_part_21
  · skip
    refine lv_iload_n hx hb dX0_part_4 rfl (lv_at hl 1 rfl) ?_
    refine lv_aload_n hx hb dX0_part_5 rfl (lv_at hl 0 rfl) ?_
    refine va_get (D := (dC, dI)) (ci := 0) (v := .int (ac a 2)) (C := RX0) (T := TX0) (N := 5) hx hb hts hinX0 hown hK hP (8 + a) (hf_act ha) rfl 2 (by decide) (hts _ (List.mem_of_getElem? (i := 1) rfl)) (fun _ h9 => h9) rfl dX0_part_6 ?_
    refine lv_iconst (v := (-1)) hx hb dX0_part_9 (by decide) ?_
    refine lv_ixor hx hb dX0_part_10 ?_
    refine lv_iand hx hb dX0_part_11 ?_
    refine lv_goto (tgt := 21) hx hb dX0_part_12 (by decide) ?_
    exact W.iret (v := b &&& ((ac a 2) ^^^ (-1))) hx hb hr (fun t ht hW => ⟨_, rfl, by show _ = paS (_, _, _, _, ac, nx) a b w; unfold paS; rw [if_pos c1_0]; rfl, ht⟩) (fun q h => nomatch h) dX0_part_21
set_option maxHeartbeats 4000000 in
set_option maxRecDepth 100000 in
/-- Action.sensed(state) -/
theorem c_X0_sensed (l : Launch) (dC : Nat → ClassId) (dI : Nat → Nat → Nat) (A : Nat → Nat) (cI cQ : ClassId) (σ : HS) {a : Nat} (ha : a < 8) {k : Nat} (hk : k < 16) : Met l yX0_sensed wsX0_sensed ({ frames := 1, cells := 0, slots := 0, locals := 21 }) (va_Pc [.ref (A (8 + a)), .int (nI k)] (hfP dC dI A cI cQ σ)) (vp_Si (fun r => r = b2i (bt (acS σ a 2) k))) 0 0 (fun _ => False) := by
  obtain ⟨⟨cl, st, go, hi, ma⟩, ⟨ct, tc⟩, ⟨be, co, ap⟩, tr, ac, nx⟩ := σ
  refine Met.ofW (cc := cX0_sensed) (maxL := 2) (ret := (some .int)) (by decide) rfl ?_
  intro p e s m args below meth c s₁ B hml hv
  obtain ⟨rfl, hP, hX⟩ := hv
  have hx := B.exec
  have hb := B.bytes
  have hr := B.returns
  have hts := atoms_spec (ws := wsX0_sensed) B.pre
  have hown : s.vm.findClass RX0 = some m.cls := findClass_of_methodNamed B.named
  have hlocks := B.notSynchronized
  have hK := hX.1
  have hinX0 : ∀ w ∈ wsX00, w ∈ wsX0_sensed := fun _ h => List.mem_cons_of_mem _ (List.mem_append_right _ h)
  have hl := lv_entry ([.ref (A (8 + a)), .int (nI k)]) (n := 2) (Nat.le_of_ble_eq_true rfl)
  rw [lg_entry_eq]
  generalize (lg_sl ([.ref (A (8 + a)), .int (nI k)]) ++ List.replicate (2 - (lg_sl ([.ref (A (8 + a)), .int (nI k)])).length) Slot.unset).toArray = ls at hl ⊢
  have hl : lv_has ls 2 [(0, .ref (A (8 + a))), (1, .int (nI k))] := hl
  refine lv_iload_n hx hb dX0_sensed_0 rfl (lv_at hl 1 rfl) ?_
  refine lv_aload_n hx hb dX0_sensed_1 rfl (lv_at hl 0 rfl) ?_
  refine va_get (D := (dC, dI)) (ci := 0) (v := .int (ac a 2)) (C := RX0) (T := TX0) (N := 5) hx hb hts hinX0 hown hK hP (8 + a) (hf_act ha) rfl 2 (by decide) (hts _ (List.mem_of_getElem? (i := 1) rfl)) (fun _ h9 => h9) rfl dX0_sensed_2 ?_
  refine vp_callSi (va_Run.run (va_runSN (As := [.int (nI k), .int (ac a 2)]) (rest := []) ⟨hx, hb, hml, hown, hts⟩ (c_X3_isIn l (k := k) (by omega) (ac a 2)) ⟨va_cnB (host := RX3) 2 hts gX0_sensed_X3_isIn_n29 rfl rfl rfl (hX.2.1 _ (List.mem_of_getElem? (i := 8) rfl)) (hts _ (List.mem_of_getElem? (i := 3) rfl)) (by decide +kernel) ⟨Nat.le_of_ble_eq_true rfl, Nat.le_of_ble_eq_true rfl⟩, hts _ (List.mem_of_getElem? (i := 2) rfl), trivial⟩ ⟨bl_T, fun U hU hW => ⟨rfl, trivial⟩⟩ rfl rfl hl.1 rfl (lv_room (Nat.le_of_ble_eq_true rfl)) dX0_sensed_5 ⟨Nat.zero_le _, Nat.zero_le _⟩)) (fun r er => ?_)
  subst er
  refine lv_if_eq (tgt := 15) hx hb dX0_sensed_8 (by decide) (fun c8_0 => ?_) (fun c8_0 => ?_)
  · skip
    refine lv_iconst (v := 0) hx hb dX0_sensed_15 (by decide) ?_
    exact W.iret (v := 0) hx hb hr (fun t ht hW => ⟨_, rfl, by show _ = b2i (bt (ac a 2) k); rw [b2i_0.mp c8_0]; rfl, ht⟩) (fun q h => nomatch h) dX0_sensed_16
  · skip
    refine lv_iconst (v := 1) hx hb dX0_sensed_11 (by decide) ?_
    refine lv_goto (tgt := 16) hx hb dX0_sensed_12 (by decide) ?_
    exact W.iret (v := 1) hx hb hr (fun t ht hW => ⟨_, rfl, by show _ = b2i (bt (ac a 2) k); rw [b2i_n0.mp c8_0]; rfl, ht⟩) (fun q h => nomatch h) dX0_sensed_16
set_option maxHeartbeats 4000000 in
set_option maxRecDepth 100000 in
/-- Action.after(belief) -/
theorem c_X0_after (l : Launch) (dC : Nat → ClassId) (dI : Nat → Nat → Nat) (A : Nat → Nat) (cI cQ : ClassId) (σ : HS) {a : Nat} (ha : a < 8) (b : Int32) : Met l yX0_after wsX0_after ({ frames := 1, cells := 0, slots := 0, locals := 21 }) (va_Pc [.ref (A (8 + a)), .int b] (hfP dC dI A cI cQ σ)) (vp_Si (fun r => r = afS σ a b)) 0 0 (fun _ => False) := by
  obtain ⟨⟨cl, st, go, hi, ma⟩, ⟨ct, tc⟩, ⟨be, co, ap⟩, tr, ac, nx⟩ := σ
  refine Met.ofW (cc := cX0_after) (maxL := 4) (ret := (some .int)) (by decide) rfl ?_
  intro p e s m args below meth c s₁ B hml hv
  obtain ⟨rfl, hP, hX⟩ := hv
  have hx := B.exec
  have hb := B.bytes
  have hr := B.returns
  have hts := atoms_spec (ws := wsX0_after) B.pre
  have hown : s.vm.findClass RX0 = some m.cls := findClass_of_methodNamed B.named
  have hlocks := B.notSynchronized
  have hK := hX.1
  have hinX0 : ∀ w ∈ wsX00, w ∈ wsX0_after := fun _ h => List.mem_cons_of_mem _ (List.mem_append_right _ h)
  have hl := lv_entry ([.ref (A (8 + a)), .int b]) (n := 4) (Nat.le_of_ble_eq_true rfl)
  rw [lg_entry_eq]
  generalize (lg_sl ([.ref (A (8 + a)), .int b]) ++ List.replicate (4 - (lg_sl ([.ref (A (8 + a)), .int b])).length) Slot.unset).toArray = ls at hl ⊢
  have hl : lv_has ls 4 [(0, .ref (A (8 + a))), (1, .int b)] := hl
  refine lv_iconst (v := 0) hx hb dX0_after_0 (by decide) ?_
  refine lv_istore_n (lv' := [(2, .int 0), (0, .ref (A (8 + a))), (1, .int b)]) hx hb dX0_after_1 rfl hl (by decide) rfl (fun ls hl => ?_)
  refine lv_iconst (v := 0) hx hb dX0_after_2 (by decide) ?_
  refine lv_istore_n (lv' := [(3, .int 0), (2, .int 0), (0, .ref (A (8 + a))), (1, .int b)]) hx hb dX0_after_3 rfl hl (by decide) rfl (fun ls hl => ?_)
  refine w_loopP (pc := 4) 16 (fun k ls => lv_has ls 4 [(0, .ref (A (8 + a))), (1, .int b), (2, .int (afN (nx a) b k)), (3, .int (nI k))]) ?_ 0 (Nat.zero_le _) ls (lv_sub hl [2, 3, 1, 0] rfl)
  clear hl ls
  intro k ls hk hl ih
  refine lv_iload_n hx hb dX0_after_4 rfl (lv_at hl 3 rfl) ?_
  refine lv_bipush (v := 16) hx hb dX0_after_5 (by decide) ?_
  refine lv_icmp_ge (tgt := 35) hx hb dX0_after_7 (by decide) (fun c7_0 => ?_) (fun c7_0 => ?_)
  · skip
    obtain rfl := ctr_ge (N := 16) rfl (by decide) hk c7_0
    refine lv_iload_n hx hb dX0_after_35 rfl (lv_at hl 2 rfl) ?_
    exact W.iret hx hb hr (fun t ht hW => ⟨_, rfl, rfl, ht⟩) (fun q h => nomatch h) dX0_after_36
  · skip
    have hlt := ctr_lt (N := 16) rfl (by decide) hk c7_0
    refine lv_iload_n hx hb dX0_after_10 rfl (lv_at hl 3 rfl) ?_
    refine lv_iload_n hx hb dX0_after_11 rfl (lv_at hl 1 rfl) ?_
    refine vp_callSi (va_Run.run (va_runSN (As := [.int (nI k), .int b]) (rest := []) ⟨hx, hb, hml, hown, hts⟩ (c_X3_isIn l (k := k) (by omega) b) ⟨va_cnB (host := RX3) 2 hts gX0_after_X3_isIn_n29 rfl rfl rfl (hX.2.1 _ (List.mem_of_getElem? (i := 8) rfl)) (hts _ (List.mem_of_getElem? (i := 3) rfl)) (by decide +kernel) ⟨Nat.le_of_ble_eq_true rfl, Nat.le_of_ble_eq_true rfl⟩, hts _ (List.mem_of_getElem? (i := 2) rfl), trivial⟩ ⟨bl_T, fun U hU hW => ⟨rfl, trivial⟩⟩ rfl rfl hl.1 rfl (lv_room (Nat.le_of_ble_eq_true rfl)) dX0_after_12 ⟨Nat.zero_le _, Nat.zero_le _⟩)) (fun r er => ?_)
    subst er
    refine lv_if_eq (tgt := 29) hx hb dX0_after_15 (by decide) (fun c15_1 => ?_) (fun c15_1 => ?_)
    · skip
      obtain ⟨y2, ey2⟩ : ∃ y : Int32, y = (nI k) + 1 := ⟨_, rfl⟩
      refine lv_iinc (v := y2) (lv' := [(3, .int y2), (0, .ref (A (8 + a))), (1, .int b), (2, .int (afN (nx a) b k))]) hx hb dX0_after_29 hl (k := 3) rfl (by rw [ey2]; rfl) (by decide) rfl (fun ls hl => ?_)
      obtain rfl : y2 = nI (k + 1) := ey2.trans (nI_1 k)
      refine lv_goto (tgt := 4) hx hb dX0_after_32 (by decide) ?_
      exact ih ls (by rw [afN, if_neg (by rw [b2i_0.mp c15_1]; decide)]; exact lv_sub hl [1, 2, 3, 0] rfl) hlt
    · skip
      refine lv_iload_n hx hb dX0_after_18 rfl (lv_at hl 2 rfl) ?_
      refine lv_iconst (v := 1) hx hb dX0_after_19 (by decide) ?_
      refine lv_aload_n hx hb dX0_after_20 rfl (lv_at hl 0 rfl) ?_
      refine va_get (D := (dC, dI)) (ci := 0) (v := .ref (A (16 + a))) (C := RX0) (T := TX0) (N := 5) hx hb hts hinX0 hown hK hP (8 + a) (hf_act ha) rfl 4 (by decide) (hts _ (List.mem_of_getElem? (i := 1) rfl)) (fun _ h9 => h9) rfl dX0_after_21 ?_
      refine lv_iload_n hx hb dX0_after_24 rfl (lv_at hl 3 rfl) ?_
      refine va_iald hx hb hK hP (16 + a) 0 (hf_nxt ha) rfl (vp_in_nI (show k < 16 by omega) (by decide)) dX0_after_25 ?_
      rw [nI_clamp (show k < 2 ^ 31 by have := (show k < 16 by omega); omega)]
      refine lv_ishl hx hb dX0_after_26 ?_
      refine lv_ior hx hb dX0_after_27 ?_
      refine lv_istore_n (lv' := [(2, .int ((afN (nx a) b k) ||| (1 <<< ((nx a k) &&& 31)))), (0, .ref (A (8 + a))), (1, .int b), (3, .int (nI k))]) hx hb dX0_after_28 rfl hl (by decide) rfl (fun ls hl => ?_)
      obtain ⟨y3, ey3⟩ : ∃ y : Int32, y = (nI k) + 1 := ⟨_, rfl⟩
      refine lv_iinc (v := y3) (lv' := [(3, .int y3), (2, .int ((afN (nx a) b k) ||| (1 <<< ((nx a k) &&& 31)))), (0, .ref (A (8 + a))), (1, .int b)]) hx hb dX0_after_29 hl (k := 3) rfl (by rw [ey3]; rfl) (by decide) rfl (fun ls hl => ?_)
      obtain rfl : y3 = nI (k + 1) := ey3.trans (nI_1 k)
      refine lv_goto (tgt := 4) hx hb dX0_after_32 (by decide) ?_
      exact ih ls (by rw [afN, if_pos (b2i_n0.mp c15_1)]; exact lv_sub hl [2, 3, 1, 0] rfl) hlt
