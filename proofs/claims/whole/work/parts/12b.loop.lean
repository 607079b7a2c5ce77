/-! ===== the law's loop ===== -/
theorem and31 (x : Int32) : ∃ j, j < 32 ∧ x &&& 31 = nI j := by
  refine ⟨(x &&& 31).toBitVec.toNat, ?_, ?_⟩
  · refine Nat.lt_pow_two_of_testBit (n := 5) _ fun i hi => ?_
    rw [BitVec.testBit_toNat]
    show bt (x &&& 31) i = false
    rw [b_and]
    rcases Nat.lt_or_ge i 32 with z | z
    · rw [(by decide +kernel : ∀ i, i < 32 → 5 ≤ i → bt 31 i = false) i z hi, Bool.and_false]
    · rw [b_big (x := 31) z, Bool.and_false]
  · apply Int32.toBitVec_inj.mp
    show (x &&& 31).toBitVec = BitVec.ofNat 32 (x &&& 31).toBitVec.toNat
    exact (BitVec.ofNat_toNat 32 (x &&& 31).toBitVec).symm ▸ (by simp)
theorem len6 {L : Nat} (hL : L ≤ 3072) : (nI L - 6).toInt = (L : Int) - 6 := by
  rcases Nat.lt_or_ge L 6 with z | z
  · exact (by decide +kernel : ∀ L, L < 6 → (nI L - 6).toInt = (L : Int) - 6) L z
  · rw [show (6 : Int32) = nI 6 from rfl, nI_subN z, nI_toInt (by omega)]
    omega
set_option maxHeartbeats 4000000 in
set_option maxRecDepth 100000 in
theorem law_loop {p : Program} {l : Launch} {e : Env} {s : State} {m : MethodId} {below : List Frame} {meth : Method} {c : Code} {b L : Nat} {xs : Nat → Int32} {dC : Nat → ClassId} {dI : Nat → Nat → Nat} {A AB : Nat → Nat} {cI cQ cZ cL : ClassId} {o : Nat} (C : LC p l s m meth c b L xs dC dI cI cQ cZ cL) (hr : meth.sig.returnType = ret) (hlocks : meth.locks = false) :
    ∀ (k n : Nat), (6 * (n + k) ≤ L ∧ L < 6 * (n + k) + 6) → ∀ (H : Heap) (locs : List Loc) (ls : Array Slot) (σ : HS) (τ : MS) (f : Nat → Int64), LI s b dC dI A AB cI cQ cZ cL o n H locs ls σ τ f →
      W p l e room_1 s m #[Value.ref b] below meth c H locs (52 + n) (1167 + 6 * n) (lw_Z below #[Value.ref b] s) (F0 m 23 ls []) := by
  intro k
  induction k with
  | zero =>
    intro n hk H locs ls σ τ f hI
    obtain ⟨hx, hb, hml, hown, hts, ⟨hXs, hbl, hL⟩, hlt, hX, hKM, hKL, hH0, hN⟩ := id C
    obtain ⟨hP, hD, hS, hl, hRE⟩ := id hI
    have hbA : ¬ s.heap.size ≤ b := Nat.not_le.mpr hbl
    have e6 := len6 hL
    have en : (nI (6 * n)).toInt = ((6 * n : Nat) : Int) := nI_toInt (by omega)
    refine lv_iload hx hb dL_law_23 (lv_at hl 4 rfl) ?_
    refine lv_aload_n hx hb dL_law_25 rfl (lv_at hl 0 rfl) ?_
    refine va_slen hx hb hXs hbl hbA hS dL_law_26 ?_
    refine lv_bipush (v := 6) hx hb dL_law_27 (by decide) ?_
    refine lv_isub hx hb dL_law_29 ?_
    refine lv_icmp_gt (tgt := 1134) hx hb dL_law_30 (by decide) (fun c0 => ?_) (fun c0 => ?_)
    · refine va_forget hS.2.2 ?_
      refine W.widen (k := 613737) (n := 7254893) (by omega) (by omega) ?_
      refine lv_iconst (v := 1) hx hb dL_law_1134 (by decide) ?_
      exact lw_ret hx hb hr hlocks dL_law_1135
    · exfalso
      have c1 : ¬ (nI L - 6).toInt < (nI (6 * n)).toInt := fun z => c0 (Int32.lt_iff_toInt_lt.mpr z)
      omega
  | succ k IH =>
    intro n hk H locs ls σ τ f hI
    have hn : 6 * n + 6 ≤ L := by omega
    obtain ⟨hx, hb, hml, hown, hts, ⟨hXs, hbl, hL⟩, hlt, hX, hKM, hKL, hH0, hN⟩ := id C
    obtain ⟨hP, hD, hS, hl, hRE⟩ := id hI
    have hbA : ¬ s.heap.size ≤ b := Nat.not_le.mpr hbl
    have e6 := len6 hL
    have en : (nI (6 * n)).toInt = ((6 * n : Nat) : Int) := nI_toInt (by omega)
    refine lv_iload hx hb dL_law_23 (lv_at hl 4 rfl) ?_
    refine lv_aload_n hx hb dL_law_25 rfl (lv_at hl 0 rfl) ?_
    refine va_slen hx hb hXs hbl hbA hS dL_law_26 ?_
    refine lv_bipush (v := 6) hx hb dL_law_27 (by decide) ?_
    refine lv_isub hx hb dL_law_29 ?_
    refine lv_icmp_gt (tgt := 1134) hx hb dL_law_30 (by decide) (fun c0 => ?_) (fun c0 => ?_)
    · exfalso
      have c1 : (nI L - 6).toInt < (nI (6 * n)).toInt := Int32.lt_iff_toInt_lt.mp c0
      omega
    · clear c0
      refine lv_aload_n hx hb dL_law_33 rfl (lv_at hl 0 rfl) ?_
      refine lv_iload hx hb dL_law_34 (lv_at hl 4 rfl) ?_
      refine va_sld hx hb hXs hbl hbA hS (vp_in_nI (show 6 * n < L by omega) (by omega)) dL_law_36 ?_
      rw [nI_clamp (show 6 * n < 2 ^ 31 by omega)]
      refine lv_bipush (v := 31) hx hb dL_law_37 (by decide) ?_
      refine lv_iand hx hb dL_law_39 ?_
      obtain ⟨j, hj, ej⟩ := and31 (xs (6 * n))
      rw [ej]
      have ih : ∀ (H : Heap) (locs : List Loc) (ls : Array Slot) (σ : HS) (τ : MS) (f : Nat → Int64), LI s b dC dI A AB cI cQ cZ cL o n H locs ls σ τ f → W p l e room_1 s m #[Value.ref b] below meth c H locs (52 + n + 1) (1167 + 6 * n + 6) (lw_Z below #[Value.ref b] s) (F0 m 1128 ls []) := by
        intro H locs ls σ τ f hI
        obtain ⟨hP, hD, hS, hl, hRE⟩ := hI
        obtain ⟨y, ey⟩ : ∃ y : Int32, y = nI (6 * n) + 6 := ⟨_, rfl⟩
        refine lv_iinc (v := y) (lv' := [(4, .int y), (0, .ref b), (1, .ref (A 0)), (2, .ref (AB 0)), (3, .ref o)]) hx hb dL_law_1128 hl (k := 4) rfl (by rw [ey]; rfl) (by decide) rfl (fun ls hl => ?_)
        have ey : y = nI (6 * (n + 1)) := ey.trans (nI_add (6 * n) 6)
        subst ey
        refine lv_goto (tgt := 23) hx hb dL_law_1131 (by decide) ?_
        refine W.widen (k := 52 + (n + 1)) (n := 1167 + 6 * (n + 1)) (by omega) (by omega) ?_
        exact IH (n + 1) (by omega) _ _ _ _ _ _ ⟨hP, hD, hS, lv_sub hl [1, 2, 3, 4, 0] rfl, hRE⟩
      obtain rfl | rfl | rfl | rfl | rfl | rfl | rfl | rfl | rfl | rfl | rfl | rfl | rfl | rfl | rfl | rfl | rfl | rfl | h18 : j = 0 ∨ j = 1 ∨ j = 2 ∨ j = 3 ∨ j = 4 ∨ j = 5 ∨ j = 6 ∨ j = 7 ∨ j = 8 ∨ j = 9 ∨ j = 10 ∨ j = 11 ∨ j = 12 ∨ j = 13 ∨ j = 14 ∨ j = 15 ∨ j = 16 ∨ j = 17 ∨ 18 ≤ j := by omega
      · refine lv_tableIn (off := 88) (tgt := 128) hx hb dL_law_40 (by decide) (by decide) (by decide) (by decide) ?_
        exact lc_clear C hn hI ih
      · refine lv_tableIn (off := 101) (tgt := 141) hx hb dL_law_40 (by decide) (by decide) (by decide) (by decide) ?_
        exact lc_action C hn hI ih
      · refine lv_tableIn (off := 200) (tgt := 240) hx hb dL_law_40 (by decide) (by decide) (by decide) (by decide) ?_
        by_cases hz3 : xs (6 * n + 3) = 0
        · exact lc_effect_f C hn hI hz3 ih
        · exact lc_effect_t C hn hI hz3 ih
      · refine lv_tableIn (off := 320) (tgt := 360) hx hb dL_law_40 (by decide) (by decide) (by decide) (by decide) ?_
        exact lc_clause C hn hI ih
      · refine lv_tableIn (off := 388) (tgt := 428) hx hb dL_law_40 (by decide) (by decide) (by decide) (by decide) ?_
        exact lc_goal C hn hI ih
      · refine lv_tableIn (off := 456) (tgt := 496) hx hb dL_law_40 (by decide) (by decide) (by decide) (by decide) ?_
        exact lc_start C hn hI ih
      · refine lv_tableIn (off := 469) (tgt := 509) hx hb dL_law_40 (by decide) (by decide) (by decide) (by decide) ?_
        exact lc_behind C hn hI ih
      · refine lv_tableIn (off := 537) (tgt := 577) hx hb dL_law_40 (by decide) (by decide) (by decide) (by decide) ?_
        exact lc_least C hn hI ih
      · refine lv_tableIn (off := 605) (tgt := 645) hx hb dL_law_40 (by decide) (by decide) (by decide) (by decide) ?_
        exact lc_plan C hn hI ih
      · refine lv_tableIn (off := 661) (tgt := 701) hx hb dL_law_40 (by decide) (by decide) (by decide) (by decide) ?_
        exact lc_nodes C hn hI ih
      · refine lv_tableIn (off := 674) (tgt := 714) hx hb dL_law_40 (by decide) (by decide) (by decide) (by decide) ?_
        exact lc_node C hn hI ih
      · refine lv_tableIn (off := 742) (tgt := 782) hx hb dL_law_40 (by decide) (by decide) (by decide) (by decide) ?_
        exact lc_edit C hn hI ih
      · refine lv_tableIn (off := 810) (tgt := 850) hx hb dL_law_40 (by decide) (by decide) (by decide) (by decide) ?_
        exact lc_right C hn hI ih
      · refine lv_tableIn (off := 861) (tgt := 901) hx hb dL_law_40 (by decide) (by decide) (by decide) (by decide) ?_
        exact lc_hide C hn hI ih
      · refine lv_tableIn (off := 924) (tgt := 964) hx hb dL_law_40 (by decide) (by decide) (by decide) (by decide) ?_
        exact lc_execute C hn hI ih
      · refine lv_tableIn (off := 975) (tgt := 1015) hx hb dL_law_40 (by decide) (by decide) (by decide) (by decide) ?_
        exact lc_made C hn hI ih
      · refine lv_tableIn (off := 988) (tgt := 1028) hx hb dL_law_40 (by decide) (by decide) (by decide) (by decide) ?_
        exact lc_trace C hn hI ih
      · refine lv_tableIn (off := 1044) (tgt := 1084) hx hb dL_law_40 (by decide) (by decide) (by decide) (by decide) ?_
        exact lc_twins C hn hI ih
      · refine lv_tableOut (tgt := 1128) hx hb dL_law_40 (Or.inr (by rw [nI_toInt (by omega)]; omega)) (by decide) ?_
        refine W.widen (k := 52 + n + 1) (n := 1167 + 6 * n + 6) (by omega) (by omega) ?_
        exact ih _ _ _ _ _ _ hI
