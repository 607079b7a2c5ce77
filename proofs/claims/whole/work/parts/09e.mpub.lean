def cnB (f : Nat → Bool) : Nat → Nat
  | 0 => 0
  | n + 1 => if f n = true then cnB f n + 1 else cnB f n
theorem cnB_le (f : Nat → Bool) : ∀ n, cnB f n ≤ n := by
  intro n
  induction n with
  | zero => exact Nat.le_refl 0
  | succ n ih => unfold cnB; split <;> omega
theorem b2i_le0 {b : Bool} (h : b = false) : b2i b ≤ 0 := by rw [h]; decide
def few (us : Nat → Int32 → Bool) (pt : Nat → Int32 → Int32 → Int32) (re : Int32 → Bool) (b : Int32) (most : Nat) : Option Nat := (List.range (most + 1)).find? (fun n => slv us pt re n b)
theorem few_lt {us : Nat → Int32 → Bool} {pt : Nat → Int32 → Int32 → Int32} {re : Int32 → Bool} {b : Int32} {q n : Nat} (h : few us pt re b q = some n) : n ≤ q := by
  have := List.mem_range.mp (List.find?_range_eq_some.mp h).2.1
  omega
theorem o2i_ge {n : Nat} (h : n < 2 ^ 31) : ¬ ¬ (0 : Int32) ≤ o2i (some n) := fun q => q (nI_nlt0 h)
theorem wi_nat {k n : Nat} (hk : k ≤ n) (hn : n < 2 ^ 31) : wiB (nI k) 0 (nI n) = true := by
  unfold wiB
  rw [decide_eq_true (nI_nlt0 (by omega)), decide_eq_true (nI_le hk hn)]; rfl
set_option maxHeartbeats 4000000 in
set_option maxRecDepth 100000 in
/-- clear  -/
theorem m_clear (l : Launch) (dC : Nat → ClassId) (dI : Nat → Nat → Nat) (AB : Nat → Nat) (cI cZ : ClassId) (τ : MS) (sz : Nat) {th : Nat → Bool} {ef : Nat → Nat} (hM : mok th ef τ) : Met l yX4_clear wsX4_clear ({ frames := 12, cells := 0, slots := 0, locals := 600 }) (va_Pc [.ref (AB 0)] (mF dC dI AB cI cZ sz τ)) (va_Qi (fun (r : Int32) (τ2 : MS) => r = nI (cnB th 8) ∧ τ2 = (va_up (va_up (va_up (va_up (va_up (va_up (va_up τ.1 0 0) 10 0) 13 0) 14 0) 15 0) 28 (-1)) 29 0, va_up τ.2 1 (fillN (τ.2 1) (fun _ => 0) 8))) (mB dC dI AB cI cZ (va_A (mW AB cI cZ τ) sz)) (va_A (mW AB cI cZ τ) sz)) 0 0 (va_A (mW AB cI cZ τ) sz) := by
  obtain ⟨sc, ar⟩ := τ
  refine Met.ofW (cc := cX4_clear) (maxL := 3) (ret := (some .int)) (by decide) rfl ?_
  intro p e s m args below meth c s₁ B hml hv
  obtain ⟨rfl, hsz, hP, hK, hD0⟩ := hv
  have hx := B.exec
  have hb := B.bytes
  have hr := B.returns
  have hts := atoms_spec (ws := wsX4_clear) B.pre
  have hown : s.vm.findClass RX4 = some m.cls := findClass_of_methodNamed B.named
  have hlocks := B.notSynchronized
  have hinX4 : ∀ w ∈ wsX40, w ∈ wsX4_clear := fun _ h => List.mem_cons_of_mem _ (List.mem_append_right _ h)
  subst hsz
  have hD := hD0.self (sz := s.heap.size)
  generalize hAe : va_A (mW AB cI cZ _) s.heap.size = V at hD ⊢
  have hA : ∀ q : Nat, s.heap.size ≤ q → V q := fun q h => by rw [← hAe]; exact Or.inr h
  have hS : va_S V s.heap s.heap [] := va_S.rf
  have hl := lv_entry ([.ref (AB 0)]) (n := 3) (Nat.le_of_ble_eq_true rfl)
  rw [lg_entry_eq]
  generalize (lg_sl ([.ref (AB 0)]) ++ List.replicate (3 - (lg_sl ([.ref (AB 0)])).length) Slot.unset).toArray = ls at hl ⊢
  have hl : lv_has ls 3 [(0, .ref (AB 0))] := hl
  have hP : va_P (dC, dI) vwCl (mL AB cI cZ sc ar) s.heap := hP
  have hD : va_D V (mL AB cI cZ sc ar) := hD
  refine lv_aload_n hx hb dX4_clear_0 rfl (lv_at hl 0 rfl) ?_
  refine lv_iconst (v := 0) hx hb dX4_clear_1 (by decide) ?_
  refine va_put (D := (dC, dI)) (ci := 4) (v := .int 0) (ty := .int) (C := RX4) (T := TX4) (N := 33) hx hb hts hinX4 tyX4 tyX4_ok nmX4 hown hK hP hD hS 0 rfl rfl 0 (by decide) (hts _ (List.mem_of_getElem? (i := 1) rfl)) (fun _ h9 => h9) rfl (by decide +kernel) rfl rfl (Nat.le_of_ble_eq_true rfl) dX4_clear_2 (fun H locs hP hD hS => ?_)
  have hP : va_P (dC, dI) vwCl (mL AB cI cZ (va_up sc 0 0) ar) H := hP
  have hD : va_D V (mL AB cI cZ (va_up sc 0 0) ar) := hD
  refine lv_iconst (v := 0) hx hb dX4_clear_5 (by decide) ?_
  refine lv_istore_n (lv' := [(1, .int 0), (0, .ref (AB 0))]) hx hb dX4_clear_6 rfl hl (by decide) rfl (fun ls hl => ?_)
  refine lv_iconst (v := 0) hx hb dX4_clear_7 (by decide) ?_
  refine lv_istore_n (lv' := [(2, .int 0), (1, .int 0), (0, .ref (AB 0))]) hx hb dX4_clear_8 rfl hl (by decide) rfl (fun ls hl => ?_)
  refine w_loopH (pc := 9) 8 (fun k ls H locs => va_P (dC, dI) vwCl (mL AB cI cZ (va_up sc 0 0) (va_up ar 1 (fillN (ar 1) (fun _ => 0) k))) H ∧ va_D V (mL AB cI cZ (va_up sc 0 0) (va_up ar 1 (fillN (ar 1) (fun _ => 0) k))) ∧ va_S V s.heap H locs ∧ lv_has ls 3 [(0, .ref (AB 0)), (1, .int (nI (cnB th k))), (2, .int (nI k))]) ?_ 0 (Nat.zero_le _) ls _ _ ⟨by rw [fillN_0]; exact hP, by rw [fillN_0]; exact hD, hS, lv_sub hl [2, 1, 0] rfl⟩
  intro k ls H locs hk hI ih
  obtain ⟨hP, hD, hS, hl⟩ := hI
  refine lv_iload_n hx hb dX4_clear_9 rfl (lv_at hl 2 rfl) ?_
  refine lv_bipush (v := 8) hx hb dX4_clear_10 (by decide) ?_
  refine lv_icmp_ge (tgt := 45) hx hb dX4_clear_12 (by decide) (fun c12_0 => ?_) (fun c12_0 => ?_)
  · skip
    obtain rfl := ctr_ge (N := 8) rfl (by decide) hk c12_0
    refine lv_aload_n hx hb dX4_clear_45 rfl (lv_at hl 0 rfl) ?_
    refine lv_iconst (v := 0) hx hb dX4_clear_46 (by decide) ?_
    refine va_put (D := (dC, dI)) (ci := 4) (v := .int 0) (ty := .int) (C := RX4) (T := TX4) (N := 33) hx hb hts hinX4 tyX4 tyX4_ok nmX4 hown hK hP hD hS 0 rfl rfl 10 (by decide) (hts _ (List.mem_of_getElem? (i := 3) rfl)) (fun _ h9 => h9) rfl (by decide +kernel) rfl rfl (Nat.le_of_ble_eq_true rfl) dX4_clear_47 (fun H locs hP hD hS => ?_)
    have hP : va_P (dC, dI) vwCl (mL AB cI cZ (va_up (va_up sc 0 0) 10 0) (va_up ar 1 (fillN (ar 1) (fun _ => 0) 8))) H := hP
    have hD : va_D V (mL AB cI cZ (va_up (va_up sc 0 0) 10 0) (va_up ar 1 (fillN (ar 1) (fun _ => 0) 8))) := hD
    refine lv_aload_n hx hb dX4_clear_50 rfl (lv_at hl 0 rfl) ?_
    refine lv_iconst (v := 0) hx hb dX4_clear_51 (by decide) ?_
    refine va_put (D := (dC, dI)) (ci := 4) (v := .int 0) (ty := .int) (C := RX4) (T := TX4) (N := 33) hx hb hts hinX4 tyX4 tyX4_ok nmX4 hown hK hP hD hS 0 rfl rfl 13 (by decide) (hts _ (List.mem_of_getElem? (i := 4) rfl)) (fun _ h9 => h9) rfl (by decide +kernel) rfl rfl (Nat.le_of_ble_eq_true rfl) dX4_clear_52 (fun H locs hP hD hS => ?_)
    have hP : va_P (dC, dI) vwCl (mL AB cI cZ (va_up (va_up (va_up sc 0 0) 10 0) 13 0) (va_up ar 1 (fillN (ar 1) (fun _ => 0) 8))) H := hP
    have hD : va_D V (mL AB cI cZ (va_up (va_up (va_up sc 0 0) 10 0) 13 0) (va_up ar 1 (fillN (ar 1) (fun _ => 0) 8))) := hD
    refine lv_aload_n hx hb dX4_clear_55 rfl (lv_at hl 0 rfl) ?_
    refine lv_iconst (v := 0) hx hb dX4_clear_56 (by decide) ?_
    refine va_put (D := (dC, dI)) (ci := 4) (v := .int 0) (ty := .int) (C := RX4) (T := TX4) (N := 33) hx hb hts hinX4 tyX4 tyX4_ok nmX4 hown hK hP hD hS 0 rfl rfl 14 (by decide) (hts _ (List.mem_of_getElem? (i := 5) rfl)) (fun _ h9 => h9) rfl (by decide +kernel) rfl rfl (Nat.le_of_ble_eq_true rfl) dX4_clear_57 (fun H locs hP hD hS => ?_)
    have hP : va_P (dC, dI) vwCl (mL AB cI cZ (va_up (va_up (va_up (va_up sc 0 0) 10 0) 13 0) 14 0) (va_up ar 1 (fillN (ar 1) (fun _ => 0) 8))) H := hP
    have hD : va_D V (mL AB cI cZ (va_up (va_up (va_up (va_up sc 0 0) 10 0) 13 0) 14 0) (va_up ar 1 (fillN (ar 1) (fun _ => 0) 8))) := hD
    refine lv_aload_n hx hb dX4_clear_60 rfl (lv_at hl 0 rfl) ?_
    refine lv_iconst (v := 0) hx hb dX4_clear_61 (by decide) ?_
    refine va_put (D := (dC, dI)) (ci := 4) (v := .int 0) (ty := .int) (C := RX4) (T := TX4) (N := 33) hx hb hts hinX4 tyX4 tyX4_ok nmX4 hown hK hP hD hS 0 rfl rfl 15 (by decide) (hts _ (List.mem_of_getElem? (i := 6) rfl)) (fun _ h9 => h9) rfl (by decide +kernel) rfl rfl (Nat.le_of_ble_eq_true rfl) dX4_clear_62 (fun H locs hP hD hS => ?_)
    have hP : va_P (dC, dI) vwCl (mL AB cI cZ (va_up (va_up (va_up (va_up (va_up sc 0 0) 10 0) 13 0) 14 0) 15 0) (va_up ar 1 (fillN (ar 1) (fun _ => 0) 8))) H := hP
    have hD : va_D V (mL AB cI cZ (va_up (va_up (va_up (va_up (va_up sc 0 0) 10 0) 13 0) 14 0) 15 0) (va_up ar 1 (fillN (ar 1) (fun _ => 0) 8))) := hD
    refine lv_aload_n hx hb dX4_clear_65 rfl (lv_at hl 0 rfl) ?_
    refine lv_iconst (v := (-1)) hx hb dX4_clear_66 (by decide) ?_
    refine va_put (D := (dC, dI)) (ci := 4) (v := .int (-1)) (ty := .int) (C := RX4) (T := TX4) (N := 33) hx hb hts hinX4 tyX4 tyX4_ok nmX4 hown hK hP hD hS 0 rfl rfl 28 (by decide) (hts _ (List.mem_of_getElem? (i := 7) rfl)) (fun _ h9 => h9) rfl (by decide +kernel) rfl rfl (Nat.le_of_ble_eq_true rfl) dX4_clear_67 (fun H locs hP hD hS => ?_)
    have hP : va_P (dC, dI) vwCl (mL AB cI cZ (va_up (va_up (va_up (va_up (va_up (va_up sc 0 0) 10 0) 13 0) 14 0) 15 0) 28 (-1)) (va_up ar 1 (fillN (ar 1) (fun _ => 0) 8))) H := hP
    have hD : va_D V (mL AB cI cZ (va_up (va_up (va_up (va_up (va_up (va_up sc 0 0) 10 0) 13 0) 14 0) 15 0) 28 (-1)) (va_up ar 1 (fillN (ar 1) (fun _ => 0) 8))) := hD
    refine lv_aload_n hx hb dX4_clear_70 rfl (lv_at hl 0 rfl) ?_
    refine lv_iconst (v := 0) hx hb dX4_clear_71 (by decide) ?_
    refine va_put (D := (dC, dI)) (ci := 4) (v := .int 0) (ty := .int) (C := RX4) (T := TX4) (N := 33) hx hb hts hinX4 tyX4 tyX4_ok nmX4 hown hK hP hD hS 0 rfl rfl 29 (by decide) (hts _ (List.mem_of_getElem? (i := 8) rfl)) (fun _ h9 => h9) rfl (by decide +kernel) rfl rfl (Nat.le_of_ble_eq_true rfl) dX4_clear_72 (fun H locs hP hD hS => ?_)
    have hP : va_P (dC, dI) vwCl (mL AB cI cZ (va_up (va_up (va_up (va_up (va_up (va_up (va_up sc 0 0) 10 0) 13 0) 14 0) 15 0) 28 (-1)) 29 0) (va_up ar 1 (fillN (ar 1) (fun _ => 0) 8))) H := hP
    have hD : va_D V (mL AB cI cZ (va_up (va_up (va_up (va_up (va_up (va_up (va_up sc 0 0) 10 0) 13 0) 14 0) 15 0) 28 (-1)) 29 0) (va_up ar 1 (fillN (ar 1) (fun _ => 0) 8))) := hD
    refine lv_iload_n hx hb dX4_clear_75 rfl (lv_at hl 1 rfl) ?_
    exact W.iret hx hb hr (fun t ht hW => ⟨⟨_, (va_up (va_up (va_up (va_up (va_up (va_up (va_up sc 0 0) 10 0) 13 0) 14 0) 15 0) 28 (-1)) 29 0, va_up ar 1 (fillN (ar 1) (fun _ => 0) 8)), rfl, ⟨rfl, rfl⟩, by rw [ht]; exact hP, hD⟩, hS.F ht⟩) hS.2.2 dX4_clear_76
  · skip
    have hlt := ctr_lt (N := 8) rfl (by decide) hk c12_0
    refine lv_iload_n hx hb dX4_clear_15 rfl (lv_at hl 1 rfl) ?_
    refine lv_aload_n hx hb dX4_clear_16 rfl (lv_at hl 0 rfl) ?_
    refine va_get (D := (dC, dI)) (ci := 4) (v := .ref (AB 1)) (C := RX4) (T := TX4) (N := 33) hx hb hts hinX4 hown hK hP 0 rfl rfl 1 (by decide) (hts _ (List.mem_of_getElem? (i := 2) rfl)) (fun _ h9 => h9) rfl dX4_clear_17 ?_
    refine lv_iload_n hx hb dX4_clear_20 rfl (lv_at hl 2 rfl) ?_
    refine va_zald hx hb hK hP 1 1 rfl rfl (vp_in_nI (show k < 8 by omega) (by decide)) dX4_clear_21 ?_
    rw [nI_clamp (show k < 2 ^ 31 by have := (show k < 8 by omega); omega)]
    refine lv_topi (fun y1 ey1 => ?_)
    obtain rfl : y1 = b2i (th k) := ey1.trans ((fillN_at (ar 1) (fun _ => 0) (Nat.le_refl k)).trans (hM k (by omega)).1)
    refine lv_if_eq (tgt := 29) hx hb dX4_clear_22 (by decide) (fun c22_2 => ?_) (fun c22_2 => ?_)
    · skip
      refine lv_iconst (v := 0) hx hb dX4_clear_29 (by decide) ?_
      refine lv_iadd hx hb dX4_clear_30 ?_
      refine lv_topi (fun y3 ey3 => ?_)
      obtain rfl : y3 = nI (cnB th k + 0) := ey3.trans (nI_add (cnB th k) 0)
      refine lv_istore_n (lv' := [(1, .int (nI (cnB th k + 0))), (0, .ref (AB 0)), (2, .int (nI k))]) hx hb dX4_clear_31 rfl hl (by decide) rfl (fun ls hl => ?_)
      refine lv_aload_n hx hb dX4_clear_32 rfl (lv_at hl 1 rfl) ?_
      refine va_get (D := (dC, dI)) (ci := 4) (v := .ref (AB 1)) (C := RX4) (T := TX4) (N := 33) hx hb hts hinX4 hown hK hP 0 rfl rfl 1 (by decide) (hts _ (List.mem_of_getElem? (i := 2) rfl)) (fun _ h9 => h9) rfl dX4_clear_33 ?_
      refine lv_iload_n hx hb dX4_clear_36 rfl (lv_at hl 2 rfl) ?_
      refine lv_iconst (v := 0) hx hb dX4_clear_37 (by decide) ?_
      refine va_zast hx hb hK hP hD hS 1 1 rfl rfl (vp_in_nI (show k < 8 by omega) (by decide)) dX4_clear_38 (fun H locs hP hD hS => ?_)
      rw [nI_clamp (show k < 2 ^ 31 by have := (show k < 8 by omega); omega)] at hP hD
      have hP : va_P (dC, dI) vwCl (mL AB cI cZ (va_up sc 0 0) (va_up ar 1 (upd (fillN (ar 1) (fun _ => 0) k) k 0))) H := hP
      have hD : va_D V (mL AB cI cZ (va_up sc 0 0) (va_up ar 1 (upd (fillN (ar 1) (fun _ => 0) k) k 0))) := hD
      obtain ⟨y4, ey4⟩ : ∃ y : Int32, y = (nI k) + 1 := ⟨_, rfl⟩
      refine lv_iinc (v := y4) (lv' := [(2, .int y4), (1, .int (nI (cnB th k + 0))), (0, .ref (AB 0))]) hx hb dX4_clear_39 hl (k := 2) rfl (by rw [ey4]; rfl) (by decide) rfl (fun ls hl => ?_)
      obtain rfl : y4 = nI (k + 1) := ey4.trans (nI_1 k)
      refine lv_goto (tgt := 9) hx hb dX4_clear_42 (by decide) ?_
      exact ih ls H locs ⟨by rw [← fillN_s (ar 1) (fun _ => 0) k rfl]; exact hP, by rw [← fillN_s (ar 1) (fun _ => 0) k rfl]; exact hD, hS, by rw [show cnB th (k + 1) = cnB th k from by rw [cnB.eq_2, if_neg (by rw [b2i_0.mp c22_2]; decide)]]; exact lv_sub hl [2, 1, 0] rfl⟩ hlt
    · skip
      refine lv_iconst (v := 1) hx hb dX4_clear_25 (by decide) ?_
      refine lv_goto (tgt := 30) hx hb dX4_clear_26 (by decide) ?_
      refine lv_iadd hx hb dX4_clear_30 ?_
      refine lv_topi (fun y5 ey5 => ?_)
      obtain rfl : y5 = nI (cnB th k + 1) := ey5.trans (nI_add (cnB th k) 1)
      refine lv_istore_n (lv' := [(1, .int (nI (cnB th k + 1))), (0, .ref (AB 0)), (2, .int (nI k))]) hx hb dX4_clear_31 rfl hl (by decide) rfl (fun ls hl => ?_)
      refine lv_aload_n hx hb dX4_clear_32 rfl (lv_at hl 1 rfl) ?_
      refine va_get (D := (dC, dI)) (ci := 4) (v := .ref (AB 1)) (C := RX4) (T := TX4) (N := 33) hx hb hts hinX4 hown hK hP 0 rfl rfl 1 (by decide) (hts _ (List.mem_of_getElem? (i := 2) rfl)) (fun _ h9 => h9) rfl dX4_clear_33 ?_
      refine lv_iload_n hx hb dX4_clear_36 rfl (lv_at hl 2 rfl) ?_
      refine lv_iconst (v := 0) hx hb dX4_clear_37 (by decide) ?_
      refine va_zast hx hb hK hP hD hS 1 1 rfl rfl (vp_in_nI (show k < 8 by omega) (by decide)) dX4_clear_38 (fun H locs hP hD hS => ?_)
      rw [nI_clamp (show k < 2 ^ 31 by have := (show k < 8 by omega); omega)] at hP hD
      have hP : va_P (dC, dI) vwCl (mL AB cI cZ (va_up sc 0 0) (va_up ar 1 (upd (fillN (ar 1) (fun _ => 0) k) k 0))) H := hP
      have hD : va_D V (mL AB cI cZ (va_up sc 0 0) (va_up ar 1 (upd (fillN (ar 1) (fun _ => 0) k) k 0))) := hD
      obtain ⟨y6, ey6⟩ : ∃ y : Int32, y = (nI k) + 1 := ⟨_, rfl⟩
      refine lv_iinc (v := y6) (lv' := [(2, .int y6), (1, .int (nI (cnB th k + 1))), (0, .ref (AB 0))]) hx hb dX4_clear_39 hl (k := 2) rfl (by rw [ey6]; rfl) (by decide) rfl (fun ls hl => ?_)
      obtain rfl : y6 = nI (k + 1) := ey6.trans (nI_1 k)
      refine lv_goto (tgt := 9) hx hb dX4_clear_42 (by decide) ?_
      exact ih ls H locs ⟨by rw [← fillN_s (ar 1) (fun _ => 0) k rfl]; exact hP, by rw [← fillN_s (ar 1) (fun _ => 0) k rfl]; exact hD, hS, by rw [show cnB th (k + 1) = cnB th k + 1 from by rw [cnB.eq_2, if_pos (b2i_n0.mp c22_2)]]; exact lv_sub hl [2, 1, 0] rfl⟩ hlt
set_option maxHeartbeats 4000000 in
set_option maxRecDepth 100000 in
/-- action 1 -/
theorem m_action1 (l : Launch) (dC : Nat → ClassId) (dI : Nat → Nat → Nat) (AB : Nat → Nat) (cI cZ : ClassId) (τ : MS) (sz : Nat) (x mm vv se : Int32) (h : wiB x 0 7 = false) : Met l yX4_action wsX4_action ({ frames := 12, cells := 0, slots := 0, locals := 600 }) (va_Pc [.ref (AB 0), .int x, .int mm, .int vv, .int se] (mF dC dI AB cI cZ sz τ)) (va_Qi (fun (r : Int32) (τ2 : MS) => r = 0 ∧ τ2 = (va_up τ.1 0 1, τ.2)) (mB dC dI AB cI cZ (va_A (mW AB cI cZ τ) sz)) (va_A (mW AB cI cZ τ) sz)) 0 0 (va_A (mW AB cI cZ τ) sz) := by
  obtain ⟨sc, ar⟩ := τ
  refine Met.ofW (cc := cX4_action) (maxL := 6) (ret := (some .boolean)) (by decide) rfl ?_
  intro p e s m args below meth c s₁ B hml hv
  obtain ⟨rfl, hsz, hP, hK, hD0⟩ := hv
  have hx := B.exec
  have hb := B.bytes
  have hr := B.returns
  have hts := atoms_spec (ws := wsX4_action) B.pre
  have hown : s.vm.findClass RX4 = some m.cls := findClass_of_methodNamed B.named
  have hlocks := B.notSynchronized
  have hinX4 : ∀ w ∈ wsX40, w ∈ wsX4_action := fun _ h => List.mem_cons_of_mem _ (List.mem_append_right _ h)
  subst hsz
  have hD := hD0.self (sz := s.heap.size)
  generalize hAe : va_A (mW AB cI cZ _) s.heap.size = V at hD ⊢
  have hA : ∀ q : Nat, s.heap.size ≤ q → V q := fun q h => by rw [← hAe]; exact Or.inr h
  have hS : va_S V s.heap s.heap [] := va_S.rf
  have hl := lv_entry ([.ref (AB 0), .int x, .int mm, .int vv, .int se]) (n := 6) (Nat.le_of_ble_eq_true rfl)
  rw [lg_entry_eq]
  generalize (lg_sl ([.ref (AB 0), .int x, .int mm, .int vv, .int se]) ++ List.replicate (6 - (lg_sl ([.ref (AB 0), .int x, .int mm, .int vv, .int se])).length) Slot.unset).toArray = ls at hl ⊢
  have hl : lv_has ls 6 [(0, .ref (AB 0)), (1, .int x), (2, .int mm), (3, .int vv), (4, .int se)] := hl
  have hP : va_P (dC, dI) vwCl (mL AB cI cZ sc ar) s.heap := hP
  have hD : va_D V (mL AB cI cZ sc ar) := hD
  refine lv_aload_n hx hb dX4_action_0 rfl (lv_at hl 0 rfl) ?_
  refine lv_iconst (v := 0) hx hb dX4_action_1 (by decide) ?_
  refine va_put (D := (dC, dI)) (ci := 4) (v := .int 0) (ty := .int) (C := RX4) (T := TX4) (N := 33) hx hb hts hinX4 tyX4 tyX4_ok nmX4 hown hK hP hD hS 0 rfl rfl 0 (by decide) (hts _ (List.mem_of_getElem? (i := 1) rfl)) (fun _ h9 => h9) rfl (by decide +kernel) rfl rfl (Nat.le_of_ble_eq_true rfl) dX4_action_2 (fun H locs hP hD hS => ?_)
  have hP : va_P (dC, dI) vwCl (mL AB cI cZ (va_up sc 0 0) ar) H := hP
  have hD : va_D V (mL AB cI cZ (va_up sc 0 0) ar) := hD
  refine lv_iload_n hx hb dX4_action_5 rfl (lv_at hl 1 rfl) ?_
  refine lv_iconst (v := 0) hx hb dX4_action_6 (by decide) ?_
  refine lv_bipush (v := 7) hx hb dX4_action_7 (by decide) ?_
  refine vp_callSi (W.runS (As := [.int x, .int 0, .int 7]) (rest := []) ⟨hx, hb, hml, hown, hts⟩ (m_within l x 0 7) (va_cwS 3 hts gX4_action_X4_within rfl rfl rfl (by decide +kernel) ⟨Nat.le_of_ble_eq_true rfl, Nat.le_of_ble_eq_true rfl⟩) ⟨bl_T, fun U hU hW => ⟨rfl, trivial⟩⟩ rfl rfl hl.1 rfl (lv_room (Nat.le_of_ble_eq_true rfl)) dX4_action_9 ⟨Nat.zero_le _, Nat.zero_le _⟩) (fun r er => ?_)
  obtain rfl : r = b2i (wiB x 0 7) := er
  refine lv_if_ne (tgt := 29) hx hb dX4_action_12 (by decide) (fun c12_0 => ?_) (fun c12_0 => ?_)
  · exact absurd ((b2i_n0.mp c12_0).symm.trans h) (by decide)
  · skip
    refine lv_aload_n hx hb dX4_action_15 rfl (lv_at hl 0 rfl) ?_
    refine lv_iconst (v := 1) hx hb dX4_action_16 (by decide) ?_
    have hFc := m_free (τ := (va_up sc 0 0, ar)) hD hS hA
    refine va_calli (va_runV (As := [.int 1]) (rest := []) ⟨hx, hb, hml, hown, hts⟩ (m_fail l dC dI AB cI cZ (va_up sc 0 0, ar) H.size 1) (cwV 1 hts gX4_action_X4_fail rfl rfl rfl (by decide +kernel) ⟨Nat.le_of_ble_eq_true rfl, Nat.le_of_ble_eq_true rfl⟩) ⟨bm_F, va_recv hK hP (ci := 4) (q0 := 0) rfl rfl, fun U hU hW => ⟨rfl, by rw [hU], by rw [hU]; exact hP, va_K.moved hW.alike hK, hf_any hD⟩⟩ rfl rfl hl.1 rfl (lv_room (Nat.le_of_ble_eq_true rfl)) dX4_action_17 ⟨Nat.zero_le _, Nat.zero_le _⟩) hS (fun q _ h => hFc q h) hFc (fun r u t H locs ht hvm hw hB hz1 hk1 hS => ?_)
    obtain ⟨hP1, hD1⟩ := hB
    rw [ht] at hP1
    obtain ⟨rfl, rfl⟩ := hw
    have hP : va_P (dC, dI) vwCl (mL AB cI cZ (va_up sc 0 1) ar) H := hP1
    have hD : va_D V (mL AB cI cZ (va_up sc 0 1) ar) := hf_weak hD1 hFc
    clear hP1 hD1 hFc
    refine lv_if_le (tgt := 27) hx hb dX4_action_20 (by decide) (fun c20_1 => ?_) (fun c20_1 => ?_)
    · skip
      refine lv_iconst (v := 0) hx hb dX4_action_27 (by decide) ?_
      exact W.zret hx hb hr rfl (fun t ht hW => ⟨⟨_, (va_up sc 0 1, ar), rfl, ⟨rfl, rfl⟩, by rw [ht]; exact hP, hD⟩, hS.F ht⟩) hS.2.2 dX4_action_28
    · exact absurd (by decide) c20_1
set_option maxHeartbeats 4000000 in
set_option maxRecDepth 100000 in
/-- action 2 -/
theorem m_action2 (l : Launch) (dC : Nat → ClassId) (dI : Nat → Nat → Nat) (AB : Nat → Nat) (cI cZ : ClassId) (τ : MS) (sz : Nat) (x mm vv se : Int32) (h1 : wiB x 0 7 = true) (h : (dmB mm vv && wiB se (-1) 3) = false) : Met l yX4_action wsX4_action ({ frames := 12, cells := 0, slots := 0, locals := 600 }) (va_Pc [.ref (AB 0), .int x, .int mm, .int vv, .int se] (mF dC dI AB cI cZ sz τ)) (va_Qi (fun (r : Int32) (τ2 : MS) => r = 0 ∧ τ2 = (va_up τ.1 0 2, τ.2)) (mB dC dI AB cI cZ (va_A (mW AB cI cZ τ) sz)) (va_A (mW AB cI cZ τ) sz)) 0 0 (va_A (mW AB cI cZ τ) sz) := by
  obtain ⟨sc, ar⟩ := τ
  refine Met.ofW (cc := cX4_action) (maxL := 6) (ret := (some .boolean)) (by decide) rfl ?_
  intro p e s m args below meth c s₁ B hml hv
  obtain ⟨rfl, hsz, hP, hK, hD0⟩ := hv
  have hx := B.exec
  have hb := B.bytes
  have hr := B.returns
  have hts := atoms_spec (ws := wsX4_action) B.pre
  have hown : s.vm.findClass RX4 = some m.cls := findClass_of_methodNamed B.named
  have hlocks := B.notSynchronized
  have hinX4 : ∀ w ∈ wsX40, w ∈ wsX4_action := fun _ h => List.mem_cons_of_mem _ (List.mem_append_right _ h)
  subst hsz
  have hD := hD0.self (sz := s.heap.size)
  generalize hAe : va_A (mW AB cI cZ _) s.heap.size = V at hD ⊢
  have hA : ∀ q : Nat, s.heap.size ≤ q → V q := fun q h => by rw [← hAe]; exact Or.inr h
  have hS : va_S V s.heap s.heap [] := va_S.rf
  have hl := lv_entry ([.ref (AB 0), .int x, .int mm, .int vv, .int se]) (n := 6) (Nat.le_of_ble_eq_true rfl)
  rw [lg_entry_eq]
  generalize (lg_sl ([.ref (AB 0), .int x, .int mm, .int vv, .int se]) ++ List.replicate (6 - (lg_sl ([.ref (AB 0), .int x, .int mm, .int vv, .int se])).length) Slot.unset).toArray = ls at hl ⊢
  have hl : lv_has ls 6 [(0, .ref (AB 0)), (1, .int x), (2, .int mm), (3, .int vv), (4, .int se)] := hl
  have hP : va_P (dC, dI) vwCl (mL AB cI cZ sc ar) s.heap := hP
  have hD : va_D V (mL AB cI cZ sc ar) := hD
  refine lv_aload_n hx hb dX4_action_0 rfl (lv_at hl 0 rfl) ?_
  refine lv_iconst (v := 0) hx hb dX4_action_1 (by decide) ?_
  refine va_put (D := (dC, dI)) (ci := 4) (v := .int 0) (ty := .int) (C := RX4) (T := TX4) (N := 33) hx hb hts hinX4 tyX4 tyX4_ok nmX4 hown hK hP hD hS 0 rfl rfl 0 (by decide) (hts _ (List.mem_of_getElem? (i := 1) rfl)) (fun _ h9 => h9) rfl (by decide +kernel) rfl rfl (Nat.le_of_ble_eq_true rfl) dX4_action_2 (fun H locs hP hD hS => ?_)
  have hP : va_P (dC, dI) vwCl (mL AB cI cZ (va_up sc 0 0) ar) H := hP
  have hD : va_D V (mL AB cI cZ (va_up sc 0 0) ar) := hD
  refine lv_iload_n hx hb dX4_action_5 rfl (lv_at hl 1 rfl) ?_
  refine lv_iconst (v := 0) hx hb dX4_action_6 (by decide) ?_
  refine lv_bipush (v := 7) hx hb dX4_action_7 (by decide) ?_
  refine vp_callSi (W.runS (As := [.int x, .int 0, .int 7]) (rest := []) ⟨hx, hb, hml, hown, hts⟩ (m_within l x 0 7) (va_cwS 3 hts gX4_action_X4_within rfl rfl rfl (by decide +kernel) ⟨Nat.le_of_ble_eq_true rfl, Nat.le_of_ble_eq_true rfl⟩) ⟨bl_T, fun U hU hW => ⟨rfl, trivial⟩⟩ rfl rfl hl.1 rfl (lv_room (Nat.le_of_ble_eq_true rfl)) dX4_action_9 ⟨Nat.zero_le _, Nat.zero_le _⟩) (fun r er => ?_)
  obtain rfl : r = b2i (wiB x 0 7) := er
  refine lv_if_ne (tgt := 29) hx hb dX4_action_12 (by decide) (fun c12_0 => ?_) (fun c12_0 => ?_)
  · skip
    refine lv_iload_n hx hb dX4_action_29 rfl (lv_at hl 2 rfl) ?_
    refine lv_iload_n hx hb dX4_action_30 rfl (lv_at hl 3 rfl) ?_
    refine vp_callSi (W.runS (As := [.int mm, .int vv]) (rest := []) ⟨hx, hb, hml, hown, hts⟩ (m_demand l mm vv) (va_cwS 2 hts gX4_action_X4_demand rfl rfl rfl (by decide +kernel) ⟨Nat.le_of_ble_eq_true rfl, Nat.le_of_ble_eq_true rfl⟩) ⟨bl_T, fun U hU hW => ⟨rfl, trivial⟩⟩ rfl rfl hl.1 rfl (lv_room (Nat.le_of_ble_eq_true rfl)) dX4_action_31 ⟨Nat.zero_le _, Nat.zero_le _⟩) (fun r er => ?_)
    obtain rfl : r = b2i (dmB mm vv) := er
    refine lv_if_eq (tgt := 47) hx hb dX4_action_34 (by decide) (fun c34_1 => ?_) (fun c34_1 => ?_)
    · skip
      refine lv_aload_n hx hb dX4_action_47 rfl (lv_at hl 0 rfl) ?_
      refine lv_iconst (v := 2) hx hb dX4_action_48 (by decide) ?_
      have hFc := m_free (τ := (va_up sc 0 0, ar)) hD hS hA
      refine va_calli (va_runV (As := [.int 2]) (rest := []) ⟨hx, hb, hml, hown, hts⟩ (m_fail l dC dI AB cI cZ (va_up sc 0 0, ar) H.size 2) (cwV 1 hts gX4_action_X4_fail rfl rfl rfl (by decide +kernel) ⟨Nat.le_of_ble_eq_true rfl, Nat.le_of_ble_eq_true rfl⟩) ⟨bm_F, va_recv hK hP (ci := 4) (q0 := 0) rfl rfl, fun U hU hW => ⟨rfl, by rw [hU], by rw [hU]; exact hP, va_K.moved hW.alike hK, hf_any hD⟩⟩ rfl rfl hl.1 rfl (lv_room (Nat.le_of_ble_eq_true rfl)) dX4_action_49 ⟨Nat.zero_le _, Nat.zero_le _⟩) hS (fun q _ h => hFc q h) hFc (fun r u t H locs ht hvm hw hB hz1 hk1 hS => ?_)
      obtain ⟨hP1, hD1⟩ := hB
      rw [ht] at hP1
      obtain ⟨rfl, rfl⟩ := hw
      have hP : va_P (dC, dI) vwCl (mL AB cI cZ (va_up sc 0 2) ar) H := hP1
      have hD : va_D V (mL AB cI cZ (va_up sc 0 2) ar) := hf_weak hD1 hFc
      clear hP1 hD1 hFc
      refine lv_if_le (tgt := 59) hx hb dX4_action_52 (by decide) (fun c52_2 => ?_) (fun c52_2 => ?_)
      · skip
        refine lv_iconst (v := 0) hx hb dX4_action_59 (by decide) ?_
        exact W.zret hx hb hr rfl (fun t ht hW => ⟨⟨_, (va_up sc 0 2, ar), rfl, ⟨rfl, rfl⟩, by rw [ht]; exact hP, hD⟩, hS.F ht⟩) hS.2.2 dX4_action_60
      · exact absurd (by decide) c52_2
    · skip
      refine lv_iload hx hb dX4_action_37 (lv_at hl 4 rfl) ?_
      refine lv_iconst (v := (-1)) hx hb dX4_action_39 (by decide) ?_
      refine lv_iconst (v := 3) hx hb dX4_action_40 (by decide) ?_
      refine vp_callSi (W.runS (As := [.int se, .int (-1), .int 3]) (rest := []) ⟨hx, hb, hml, hown, hts⟩ (m_within l se (-1) 3) (va_cwS 3 hts gX4_action_X4_within rfl rfl rfl (by decide +kernel) ⟨Nat.le_of_ble_eq_true rfl, Nat.le_of_ble_eq_true rfl⟩) ⟨bl_T, fun U hU hW => ⟨rfl, trivial⟩⟩ rfl rfl hl.1 rfl (lv_room (Nat.le_of_ble_eq_true rfl)) dX4_action_41 ⟨Nat.zero_le _, Nat.zero_le _⟩) (fun r er => ?_)
      obtain rfl : r = b2i (wiB se (-1) 3) := er
      refine lv_if_ne (tgt := 61) hx hb dX4_action_44 (by decide) (fun c44_3 => ?_) (fun c44_3 => ?_)
      · exact absurd h (by rw [b2i_n0.mp c34_1, b2i_n0.mp c44_3]; decide)
      · skip
        refine lv_aload_n hx hb dX4_action_47 rfl (lv_at hl 0 rfl) ?_
        refine lv_iconst (v := 2) hx hb dX4_action_48 (by decide) ?_
        have hFc := m_free (τ := (va_up sc 0 0, ar)) hD hS hA
        refine va_calli (va_runV (As := [.int 2]) (rest := []) ⟨hx, hb, hml, hown, hts⟩ (m_fail l dC dI AB cI cZ (va_up sc 0 0, ar) H.size 2) (cwV 1 hts gX4_action_X4_fail rfl rfl rfl (by decide +kernel) ⟨Nat.le_of_ble_eq_true rfl, Nat.le_of_ble_eq_true rfl⟩) ⟨bm_F, va_recv hK hP (ci := 4) (q0 := 0) rfl rfl, fun U hU hW => ⟨rfl, by rw [hU], by rw [hU]; exact hP, va_K.moved hW.alike hK, hf_any hD⟩⟩ rfl rfl hl.1 rfl (lv_room (Nat.le_of_ble_eq_true rfl)) dX4_action_49 ⟨Nat.zero_le _, Nat.zero_le _⟩) hS (fun q _ h => hFc q h) hFc (fun r u t H locs ht hvm hw hB hz1 hk1 hS => ?_)
        obtain ⟨hP1, hD1⟩ := hB
        rw [ht] at hP1
        obtain ⟨rfl, rfl⟩ := hw
        have hP : va_P (dC, dI) vwCl (mL AB cI cZ (va_up sc 0 2) ar) H := hP1
        have hD : va_D V (mL AB cI cZ (va_up sc 0 2) ar) := hf_weak hD1 hFc
        clear hP1 hD1 hFc
        refine lv_if_le (tgt := 59) hx hb dX4_action_52 (by decide) (fun c52_4 => ?_) (fun c52_4 => ?_)
        · skip
          refine lv_iconst (v := 0) hx hb dX4_action_59 (by decide) ?_
          exact W.zret hx hb hr rfl (fun t ht hW => ⟨⟨_, (va_up sc 0 2, ar), rfl, ⟨rfl, rfl⟩, by rw [ht]; exact hP, hD⟩, hS.F ht⟩) hS.2.2 dX4_action_60
        · exact absurd (by decide) c52_4
  · exact absurd ((b2i_0.mp c12_0).symm.trans h1) (by decide)
set_option maxHeartbeats 4000000 in
set_option maxRecDepth 100000 in
/-- action 0 -/
theorem m_action0 (l : Launch) (dC : Nat → ClassId) (dI : Nat → Nat → Nat) (AB : Nat → Nat) (cI cZ : ClassId) (τ : MS) (sz : Nat) {th : Nat → Bool} {ef : Nat → Nat} (hM : mok th ef τ) {a : Nat} (ha : a < 8) (mm vv se : Int32) (h1 : dmB mm vv = true) (h2 : wiB se (-1) 3 = true) : Met l yX4_action wsX4_action ({ frames := 12, cells := 0, slots := 0, locals := 600 }) (va_Pc [.ref (AB 0), .int (nI a), .int mm, .int vv, .int se] (mF dC dI AB cI cZ sz τ)) (va_Qi (fun (r : Int32) (τ2 : MS) => r = b2i (th a) ∧ τ2 = (va_up τ.1 0 0, va_up (va_up (va_up (va_up (va_up τ.2 1 (upd (τ.2 1) a 1)) 2 (upd (τ.2 2) a mm)) 3 (upd (τ.2 3) a vv)) 4 (upd (τ.2 4) a se)) 5 (upd (τ.2 5) a 0))) (mB dC dI AB cI cZ (va_A (mW AB cI cZ τ) sz)) (va_A (mW AB cI cZ τ) sz)) 0 0 (va_A (mW AB cI cZ τ) sz) := by
  obtain ⟨sc, ar⟩ := τ
  refine Met.ofW (cc := cX4_action) (maxL := 6) (ret := (some .boolean)) (by decide) rfl ?_
  intro p e s m args below meth c s₁ B hml hv
  obtain ⟨rfl, hsz, hP, hK, hD0⟩ := hv
  have hx := B.exec
  have hb := B.bytes
  have hr := B.returns
  have hts := atoms_spec (ws := wsX4_action) B.pre
  have hown : s.vm.findClass RX4 = some m.cls := findClass_of_methodNamed B.named
  have hlocks := B.notSynchronized
  have hinX4 : ∀ w ∈ wsX40, w ∈ wsX4_action := fun _ h => List.mem_cons_of_mem _ (List.mem_append_right _ h)
  subst hsz
  have hD := hD0.self (sz := s.heap.size)
  generalize hAe : va_A (mW AB cI cZ _) s.heap.size = V at hD ⊢
  have hA : ∀ q : Nat, s.heap.size ≤ q → V q := fun q h => by rw [← hAe]; exact Or.inr h
  have hS : va_S V s.heap s.heap [] := va_S.rf
  have hl := lv_entry ([.ref (AB 0), .int (nI a), .int mm, .int vv, .int se]) (n := 6) (Nat.le_of_ble_eq_true rfl)
  rw [lg_entry_eq]
  generalize (lg_sl ([.ref (AB 0), .int (nI a), .int mm, .int vv, .int se]) ++ List.replicate (6 - (lg_sl ([.ref (AB 0), .int (nI a), .int mm, .int vv, .int se])).length) Slot.unset).toArray = ls at hl ⊢
  have hl : lv_has ls 6 [(0, .ref (AB 0)), (1, .int (nI a)), (2, .int mm), (3, .int vv), (4, .int se)] := hl
  have hP : va_P (dC, dI) vwCl (mL AB cI cZ sc ar) s.heap := hP
  have hD : va_D V (mL AB cI cZ sc ar) := hD
  refine lv_aload_n hx hb dX4_action_0 rfl (lv_at hl 0 rfl) ?_
  refine lv_iconst (v := 0) hx hb dX4_action_1 (by decide) ?_
  refine va_put (D := (dC, dI)) (ci := 4) (v := .int 0) (ty := .int) (C := RX4) (T := TX4) (N := 33) hx hb hts hinX4 tyX4 tyX4_ok nmX4 hown hK hP hD hS 0 rfl rfl 0 (by decide) (hts _ (List.mem_of_getElem? (i := 1) rfl)) (fun _ h9 => h9) rfl (by decide +kernel) rfl rfl (Nat.le_of_ble_eq_true rfl) dX4_action_2 (fun H locs hP hD hS => ?_)
  have hP : va_P (dC, dI) vwCl (mL AB cI cZ (va_up sc 0 0) ar) H := hP
  have hD : va_D V (mL AB cI cZ (va_up sc 0 0) ar) := hD
  refine lv_iload_n hx hb dX4_action_5 rfl (lv_at hl 1 rfl) ?_
  refine lv_iconst (v := 0) hx hb dX4_action_6 (by decide) ?_
  refine lv_bipush (v := 7) hx hb dX4_action_7 (by decide) ?_
  refine vp_callSi (W.runS (As := [.int (nI a), .int 0, .int 7]) (rest := []) ⟨hx, hb, hml, hown, hts⟩ (m_within l (nI a) 0 7) (va_cwS 3 hts gX4_action_X4_within rfl rfl rfl (by decide +kernel) ⟨Nat.le_of_ble_eq_true rfl, Nat.le_of_ble_eq_true rfl⟩) ⟨bl_T, fun U hU hW => ⟨rfl, trivial⟩⟩ rfl rfl hl.1 rfl (lv_room (Nat.le_of_ble_eq_true rfl)) dX4_action_9 ⟨Nat.zero_le _, Nat.zero_le _⟩) (fun r er => ?_)
  obtain rfl : r = b2i (wiB (nI a) 0 7) := er
  refine lv_if_ne (tgt := 29) hx hb dX4_action_12 (by decide) (fun c12_0 => ?_) (fun c12_0 => ?_)
  · skip
    refine lv_iload_n hx hb dX4_action_29 rfl (lv_at hl 2 rfl) ?_
    refine lv_iload_n hx hb dX4_action_30 rfl (lv_at hl 3 rfl) ?_
    refine vp_callSi (W.runS (As := [.int mm, .int vv]) (rest := []) ⟨hx, hb, hml, hown, hts⟩ (m_demand l mm vv) (va_cwS 2 hts gX4_action_X4_demand rfl rfl rfl (by decide +kernel) ⟨Nat.le_of_ble_eq_true rfl, Nat.le_of_ble_eq_true rfl⟩) ⟨bl_T, fun U hU hW => ⟨rfl, trivial⟩⟩ rfl rfl hl.1 rfl (lv_room (Nat.le_of_ble_eq_true rfl)) dX4_action_31 ⟨Nat.zero_le _, Nat.zero_le _⟩) (fun r er => ?_)
    obtain rfl : r = b2i (dmB mm vv) := er
    refine lv_if_eq (tgt := 47) hx hb dX4_action_34 (by decide) (fun c34_1 => ?_) (fun c34_1 => ?_)
    · exact absurd ((b2i_0.mp c34_1).symm.trans h1) (by decide)
    · skip
      refine lv_iload hx hb dX4_action_37 (lv_at hl 4 rfl) ?_
      refine lv_iconst (v := (-1)) hx hb dX4_action_39 (by decide) ?_
      refine lv_iconst (v := 3) hx hb dX4_action_40 (by decide) ?_
      refine vp_callSi (W.runS (As := [.int se, .int (-1), .int 3]) (rest := []) ⟨hx, hb, hml, hown, hts⟩ (m_within l se (-1) 3) (va_cwS 3 hts gX4_action_X4_within rfl rfl rfl (by decide +kernel) ⟨Nat.le_of_ble_eq_true rfl, Nat.le_of_ble_eq_true rfl⟩) ⟨bl_T, fun U hU hW => ⟨rfl, trivial⟩⟩ rfl rfl hl.1 rfl (lv_room (Nat.le_of_ble_eq_true rfl)) dX4_action_41 ⟨Nat.zero_le _, Nat.zero_le _⟩) (fun r er => ?_)
      obtain rfl : r = b2i (wiB se (-1) 3) := er
      refine lv_if_ne (tgt := 61) hx hb dX4_action_44 (by decide) (fun c44_2 => ?_) (fun c44_2 => ?_)
      · skip
        refine lv_aload_n hx hb dX4_action_61 rfl (lv_at hl 0 rfl) ?_
        refine va_get (D := (dC, dI)) (ci := 4) (v := .ref (AB 1)) (C := RX4) (T := TX4) (N := 33) hx hb hts hinX4 hown hK hP 0 rfl rfl 1 (by decide) (hts _ (List.mem_of_getElem? (i := 2) rfl)) (fun _ h9 => h9) rfl dX4_action_62 ?_
        refine lv_iload_n hx hb dX4_action_65 rfl (lv_at hl 1 rfl) ?_
        refine va_zald hx hb hK hP 1 1 rfl rfl (vp_in_nI (show a < 8 by omega) (by decide)) dX4_action_66 ?_
        rw [nI_clamp (show a < 2 ^ 31 by have := (show a < 8 by omega); omega)]
        refine lv_topi (fun y3 ey3 => ?_)
        obtain rfl : y3 = b2i (th a) := ey3.trans ((hM a ha).1)
        refine lv_istore (lv' := [(5, .int (b2i (th a))), (0, .ref (AB 0)), (1, .int (nI a)), (2, .int mm), (3, .int vv), (4, .int se)]) hx hb dX4_action_67 hl (by decide) rfl (fun ls hl => ?_)
        refine lv_aload_n hx hb dX4_action_69 rfl (lv_at hl 1 rfl) ?_
        refine va_get (D := (dC, dI)) (ci := 4) (v := .ref (AB 1)) (C := RX4) (T := TX4) (N := 33) hx hb hts hinX4 hown hK hP 0 rfl rfl 1 (by decide) (hts _ (List.mem_of_getElem? (i := 2) rfl)) (fun _ h9 => h9) rfl dX4_action_70 ?_
        refine lv_iload_n hx hb dX4_action_73 rfl (lv_at hl 2 rfl) ?_
        refine lv_iconst (v := 1) hx hb dX4_action_74 (by decide) ?_
        refine va_zast hx hb hK hP hD hS 1 1 rfl rfl (vp_in_nI (show a < 8 by omega) (by decide)) dX4_action_75 (fun H locs hP hD hS => ?_)
        rw [nI_clamp (show a < 2 ^ 31 by have := (show a < 8 by omega); omega)] at hP hD
        have hP : va_P (dC, dI) vwCl (mL AB cI cZ (va_up sc 0 0) (va_up ar 1 (upd (ar 1) a 1))) H := hP
        have hD : va_D V (mL AB cI cZ (va_up sc 0 0) (va_up ar 1 (upd (ar 1) a 1))) := hD
        refine lv_aload_n hx hb dX4_action_76 rfl (lv_at hl 1 rfl) ?_
        refine va_get (D := (dC, dI)) (ci := 4) (v := .ref (AB 2)) (C := RX4) (T := TX4) (N := 33) hx hb hts hinX4 hown hK hP 0 rfl rfl 2 (by decide) (hts _ (List.mem_of_getElem? (i := 3) rfl)) (fun _ h9 => h9) rfl dX4_action_77 ?_
        refine lv_iload_n hx hb dX4_action_80 rfl (lv_at hl 2 rfl) ?_
        refine lv_iload_n hx hb dX4_action_81 rfl (lv_at hl 3 rfl) ?_
        refine va_iast hx hb hK hP hD hS 2 0 rfl rfl (vp_in_nI (show a < 8 by omega) (by decide)) dX4_action_82 (fun H locs hP hD hS => ?_)
        rw [nI_clamp (show a < 2 ^ 31 by have := (show a < 8 by omega); omega)] at hP hD
        have hP : va_P (dC, dI) vwCl (mL AB cI cZ (va_up sc 0 0) (va_up (va_up ar 1 (upd (ar 1) a 1)) 2 (upd (ar 2) a mm))) H := hP
        have hD : va_D V (mL AB cI cZ (va_up sc 0 0) (va_up (va_up ar 1 (upd (ar 1) a 1)) 2 (upd (ar 2) a mm))) := hD
        refine lv_aload_n hx hb dX4_action_83 rfl (lv_at hl 1 rfl) ?_
        refine va_get (D := (dC, dI)) (ci := 4) (v := .ref (AB 3)) (C := RX4) (T := TX4) (N := 33) hx hb hts hinX4 hown hK hP 0 rfl rfl 3 (by decide) (hts _ (List.mem_of_getElem? (i := 4) rfl)) (fun _ h9 => h9) rfl dX4_action_84 ?_
        refine lv_iload_n hx hb dX4_action_87 rfl (lv_at hl 2 rfl) ?_
        refine lv_iload_n hx hb dX4_action_88 rfl (lv_at hl 4 rfl) ?_
        refine va_iast hx hb hK hP hD hS 3 0 rfl rfl (vp_in_nI (show a < 8 by omega) (by decide)) dX4_action_89 (fun H locs hP hD hS => ?_)
        rw [nI_clamp (show a < 2 ^ 31 by have := (show a < 8 by omega); omega)] at hP hD
        have hP : va_P (dC, dI) vwCl (mL AB cI cZ (va_up sc 0 0) (va_up (va_up (va_up ar 1 (upd (ar 1) a 1)) 2 (upd (ar 2) a mm)) 3 (upd (ar 3) a vv))) H := hP
        have hD : va_D V (mL AB cI cZ (va_up sc 0 0) (va_up (va_up (va_up ar 1 (upd (ar 1) a 1)) 2 (upd (ar 2) a mm)) 3 (upd (ar 3) a vv))) := hD
        refine lv_aload_n hx hb dX4_action_90 rfl (lv_at hl 1 rfl) ?_
        refine va_get (D := (dC, dI)) (ci := 4) (v := .ref (AB 4)) (C := RX4) (T := TX4) (N := 33) hx hb hts hinX4 hown hK hP 0 rfl rfl 4 (by decide) (hts _ (List.mem_of_getElem? (i := 5) rfl)) (fun _ h9 => h9) rfl dX4_action_91 ?_
        refine lv_iload_n hx hb dX4_action_94 rfl (lv_at hl 2 rfl) ?_
        refine lv_iload hx hb dX4_action_95 (lv_at hl 5 rfl) ?_
        refine va_iast hx hb hK hP hD hS 4 0 rfl rfl (vp_in_nI (show a < 8 by omega) (by decide)) dX4_action_97 (fun H locs hP hD hS => ?_)
        rw [nI_clamp (show a < 2 ^ 31 by have := (show a < 8 by omega); omega)] at hP hD
        have hP : va_P (dC, dI) vwCl (mL AB cI cZ (va_up sc 0 0) (va_up (va_up (va_up (va_up ar 1 (upd (ar 1) a 1)) 2 (upd (ar 2) a mm)) 3 (upd (ar 3) a vv)) 4 (upd (ar 4) a se))) H := hP
        have hD : va_D V (mL AB cI cZ (va_up sc 0 0) (va_up (va_up (va_up (va_up ar 1 (upd (ar 1) a 1)) 2 (upd (ar 2) a mm)) 3 (upd (ar 3) a vv)) 4 (upd (ar 4) a se))) := hD
        refine lv_aload_n hx hb dX4_action_98 rfl (lv_at hl 1 rfl) ?_
        refine va_get (D := (dC, dI)) (ci := 4) (v := .ref (AB 5)) (C := RX4) (T := TX4) (N := 33) hx hb hts hinX4 hown hK hP 0 rfl rfl 5 (by decide) (hts _ (List.mem_of_getElem? (i := 6) rfl)) (fun _ h9 => h9) rfl dX4_action_99 ?_
        refine lv_iload_n hx hb dX4_action_102 rfl (lv_at hl 2 rfl) ?_
        refine lv_iconst (v := 0) hx hb dX4_action_103 (by decide) ?_
        refine va_iast hx hb hK hP hD hS 5 0 rfl rfl (vp_in_nI (show a < 8 by omega) (by decide)) dX4_action_104 (fun H locs hP hD hS => ?_)
        rw [nI_clamp (show a < 2 ^ 31 by have := (show a < 8 by omega); omega)] at hP hD
        have hP : va_P (dC, dI) vwCl (mL AB cI cZ (va_up sc 0 0) (va_up (va_up (va_up (va_up (va_up ar 1 (upd (ar 1) a 1)) 2 (upd (ar 2) a mm)) 3 (upd (ar 3) a vv)) 4 (upd (ar 4) a se)) 5 (upd (ar 5) a 0))) H := hP
        have hD : va_D V (mL AB cI cZ (va_up sc 0 0) (va_up (va_up (va_up (va_up (va_up ar 1 (upd (ar 1) a 1)) 2 (upd (ar 2) a mm)) 3 (upd (ar 3) a vv)) 4 (upd (ar 4) a se)) 5 (upd (ar 5) a 0))) := hD
        refine lv_iload hx hb dX4_action_105 (lv_at hl 0 rfl) ?_
        exact W.zret hx hb hr (b2i_nar _) (fun t ht hW => ⟨⟨_, (va_up sc 0 0, va_up (va_up (va_up (va_up (va_up ar 1 (upd (ar 1) a 1)) 2 (upd (ar 2) a mm)) 3 (upd (ar 3) a vv)) 4 (upd (ar 4) a se)) 5 (upd (ar 5) a 0)), rfl, ⟨rfl, rfl⟩, by rw [ht]; exact hP, hD⟩, hS.F ht⟩) hS.2.2 dX4_action_107
      · exact absurd ((b2i_0.mp c44_2).symm.trans h2) (by decide)
  · exact absurd ((b2i_0.mp c12_0).symm.trans (wi_nat (n := 7) (k := a) (by omega) (by decide))) (by decide)
set_option maxHeartbeats 4000000 in
set_option maxRecDepth 100000 in
/-- effect 1 -/
theorem m_effect1 (l : Launch) (dC : Nat → ClassId) (dI : Nat → Nat → Nat) (AB : Nat → Nat) (cI cZ : ClassId) (τ : MS) (sz : Nat) (x f : Int32) (mk1 : Bool) (mm vv : Int32) (h : wiB x 0 7 = false) : Met l yX4_effect wsX4_effect ({ frames := 12, cells := 0, slots := 0, locals := 600 }) (va_Pc [.ref (AB 0), .int x, .int f, .int (b2i mk1), .int mm, .int vv] (mF dC dI AB cI cZ sz τ)) (va_Qi (fun (r : Int32) (τ2 : MS) => r = 0 ∧ τ2 = (va_up τ.1 0 1, τ.2)) (mB dC dI AB cI cZ (va_A (mW AB cI cZ τ) sz)) (va_A (mW AB cI cZ τ) sz)) 0 0 (va_A (mW AB cI cZ τ) sz) := by
  obtain ⟨sc, ar⟩ := τ
  refine Met.ofW (cc := cX4_effect) (maxL := 7) (ret := (some .int)) (by decide) rfl ?_
  intro p e s m args below meth c s₁ B hml hv
  obtain ⟨rfl, hsz, hP, hK, hD0⟩ := hv
  have hx := B.exec
  have hb := B.bytes
  have hr := B.returns
  have hts := atoms_spec (ws := wsX4_effect) B.pre
  have hown : s.vm.findClass RX4 = some m.cls := findClass_of_methodNamed B.named
  have hlocks := B.notSynchronized
  have hinX4 : ∀ w ∈ wsX40, w ∈ wsX4_effect := fun _ h => List.mem_cons_of_mem _ (List.mem_append_right _ h)
  subst hsz
  have hD := hD0.self (sz := s.heap.size)
  generalize hAe : va_A (mW AB cI cZ _) s.heap.size = V at hD ⊢
  have hA : ∀ q : Nat, s.heap.size ≤ q → V q := fun q h => by rw [← hAe]; exact Or.inr h
  have hS : va_S V s.heap s.heap [] := va_S.rf
  have hl := lv_entry ([.ref (AB 0), .int x, .int f, .int (b2i mk1), .int mm, .int vv]) (n := 7) (Nat.le_of_ble_eq_true rfl)
  rw [lg_entry_eq]
  generalize (lg_sl ([.ref (AB 0), .int x, .int f, .int (b2i mk1), .int mm, .int vv]) ++ List.replicate (7 - (lg_sl ([.ref (AB 0), .int x, .int f, .int (b2i mk1), .int mm, .int vv])).length) Slot.unset).toArray = ls at hl ⊢
  have hl : lv_has ls 7 [(0, .ref (AB 0)), (1, .int x), (2, .int f), (3, .int (b2i mk1)), (4, .int mm), (5, .int vv)] := hl
  have hP : va_P (dC, dI) vwCl (mL AB cI cZ sc ar) s.heap := hP
  have hD : va_D V (mL AB cI cZ sc ar) := hD
  refine lv_aload_n hx hb dX4_effect_0 rfl (lv_at hl 0 rfl) ?_
  refine lv_iconst (v := 0) hx hb dX4_effect_1 (by decide) ?_
  refine va_put (D := (dC, dI)) (ci := 4) (v := .int 0) (ty := .int) (C := RX4) (T := TX4) (N := 33) hx hb hts hinX4 tyX4 tyX4_ok nmX4 hown hK hP hD hS 0 rfl rfl 0 (by decide) (hts _ (List.mem_of_getElem? (i := 1) rfl)) (fun _ h9 => h9) rfl (by decide +kernel) rfl rfl (Nat.le_of_ble_eq_true rfl) dX4_effect_2 (fun H locs hP hD hS => ?_)
  have hP : va_P (dC, dI) vwCl (mL AB cI cZ (va_up sc 0 0) ar) H := hP
  have hD : va_D V (mL AB cI cZ (va_up sc 0 0) ar) := hD
  refine lv_iload_n hx hb dX4_effect_5 rfl (lv_at hl 1 rfl) ?_
  refine lv_iconst (v := 0) hx hb dX4_effect_6 (by decide) ?_
  refine lv_bipush (v := 7) hx hb dX4_effect_7 (by decide) ?_
  refine vp_callSi (W.runS (As := [.int x, .int 0, .int 7]) (rest := []) ⟨hx, hb, hml, hown, hts⟩ (m_within l x 0 7) (va_cwS 3 hts gX4_effect_X4_within rfl rfl rfl (by decide +kernel) ⟨Nat.le_of_ble_eq_true rfl, Nat.le_of_ble_eq_true rfl⟩) ⟨bl_T, fun U hU hW => ⟨rfl, trivial⟩⟩ rfl rfl hl.1 rfl (lv_room (Nat.le_of_ble_eq_true rfl)) dX4_effect_9 ⟨Nat.zero_le _, Nat.zero_le _⟩) (fun r er => ?_)
  obtain rfl : r = b2i (wiB x 0 7) := er
  refine lv_if_ne (tgt := 21) hx hb dX4_effect_12 (by decide) (fun c12_0 => ?_) (fun c12_0 => ?_)
  · exact absurd ((b2i_n0.mp c12_0).symm.trans h) (by decide)
  · skip
    refine lv_aload_n hx hb dX4_effect_15 rfl (lv_at hl 0 rfl) ?_
    refine lv_iconst (v := 1) hx hb dX4_effect_16 (by decide) ?_
    have hFc := m_free (τ := (va_up sc 0 0, ar)) hD hS hA
    refine va_calli (va_runV (As := [.int 1]) (rest := []) ⟨hx, hb, hml, hown, hts⟩ (m_fail l dC dI AB cI cZ (va_up sc 0 0, ar) H.size 1) (cwV 1 hts gX4_effect_X4_fail rfl rfl rfl (by decide +kernel) ⟨Nat.le_of_ble_eq_true rfl, Nat.le_of_ble_eq_true rfl⟩) ⟨bm_F, va_recv hK hP (ci := 4) (q0 := 0) rfl rfl, fun U hU hW => ⟨rfl, by rw [hU], by rw [hU]; exact hP, va_K.moved hW.alike hK, hf_any hD⟩⟩ rfl rfl hl.1 rfl (lv_room (Nat.le_of_ble_eq_true rfl)) dX4_effect_17 ⟨Nat.zero_le _, Nat.zero_le _⟩) hS (fun q _ h => hFc q h) hFc (fun r u t H locs ht hvm hw hB hz1 hk1 hS => ?_)
    obtain ⟨hP1, hD1⟩ := hB
    rw [ht] at hP1
    obtain ⟨rfl, rfl⟩ := hw
    have hP : va_P (dC, dI) vwCl (mL AB cI cZ (va_up sc 0 1) ar) H := hP1
    have hD : va_D V (mL AB cI cZ (va_up sc 0 1) ar) := hf_weak hD1 hFc
    clear hP1 hD1 hFc
    exact W.iret hx hb hr (fun t ht hW => ⟨⟨_, (va_up sc 0 1, ar), rfl, ⟨rfl, rfl⟩, by rw [ht]; exact hP, hD⟩, hS.F ht⟩) hS.2.2 dX4_effect_20
set_option maxHeartbeats 4000000 in
set_option maxRecDepth 100000 in
/-- effect 2 -/
theorem m_effect2 (l : Launch) (dC : Nat → ClassId) (dI : Nat → Nat → Nat) (AB : Nat → Nat) (cI cZ : ClassId) (τ : MS) (sz : Nat) {th : Nat → Bool} {ef : Nat → Nat} (hM : mok th ef τ) {a : Nat} (ha : a < 8) (f : Int32) (mk1 : Bool) (mm vv : Int32) (h : th a = false) : Met l yX4_effect wsX4_effect ({ frames := 12, cells := 0, slots := 0, locals := 600 }) (va_Pc [.ref (AB 0), .int (nI a), .int f, .int (b2i mk1), .int mm, .int vv] (mF dC dI AB cI cZ sz τ)) (va_Qi (fun (r : Int32) (τ2 : MS) => r = 0 ∧ τ2 = (va_up τ.1 0 2, τ.2)) (mB dC dI AB cI cZ (va_A (mW AB cI cZ τ) sz)) (va_A (mW AB cI cZ τ) sz)) 0 0 (va_A (mW AB cI cZ τ) sz) := by
  obtain ⟨sc, ar⟩ := τ
  refine Met.ofW (cc := cX4_effect) (maxL := 7) (ret := (some .int)) (by decide) rfl ?_
  intro p e s m args below meth c s₁ B hml hv
  obtain ⟨rfl, hsz, hP, hK, hD0⟩ := hv
  have hx := B.exec
  have hb := B.bytes
  have hr := B.returns
  have hts := atoms_spec (ws := wsX4_effect) B.pre
  have hown : s.vm.findClass RX4 = some m.cls := findClass_of_methodNamed B.named
  have hlocks := B.notSynchronized
  have hinX4 : ∀ w ∈ wsX40, w ∈ wsX4_effect := fun _ h => List.mem_cons_of_mem _ (List.mem_append_right _ h)
  subst hsz
  have hD := hD0.self (sz := s.heap.size)
  generalize hAe : va_A (mW AB cI cZ _) s.heap.size = V at hD ⊢
  have hA : ∀ q : Nat, s.heap.size ≤ q → V q := fun q h => by rw [← hAe]; exact Or.inr h
  have hS : va_S V s.heap s.heap [] := va_S.rf
  have hl := lv_entry ([.ref (AB 0), .int (nI a), .int f, .int (b2i mk1), .int mm, .int vv]) (n := 7) (Nat.le_of_ble_eq_true rfl)
  rw [lg_entry_eq]
  generalize (lg_sl ([.ref (AB 0), .int (nI a), .int f, .int (b2i mk1), .int mm, .int vv]) ++ List.replicate (7 - (lg_sl ([.ref (AB 0), .int (nI a), .int f, .int (b2i mk1), .int mm, .int vv])).length) Slot.unset).toArray = ls at hl ⊢
  have hl : lv_has ls 7 [(0, .ref (AB 0)), (1, .int (nI a)), (2, .int f), (3, .int (b2i mk1)), (4, .int mm), (5, .int vv)] := hl
  have hP : va_P (dC, dI) vwCl (mL AB cI cZ sc ar) s.heap := hP
  have hD : va_D V (mL AB cI cZ sc ar) := hD
  refine lv_aload_n hx hb dX4_effect_0 rfl (lv_at hl 0 rfl) ?_
  refine lv_iconst (v := 0) hx hb dX4_effect_1 (by decide) ?_
  refine va_put (D := (dC, dI)) (ci := 4) (v := .int 0) (ty := .int) (C := RX4) (T := TX4) (N := 33) hx hb hts hinX4 tyX4 tyX4_ok nmX4 hown hK hP hD hS 0 rfl rfl 0 (by decide) (hts _ (List.mem_of_getElem? (i := 1) rfl)) (fun _ h9 => h9) rfl (by decide +kernel) rfl rfl (Nat.le_of_ble_eq_true rfl) dX4_effect_2 (fun H locs hP hD hS => ?_)
  have hP : va_P (dC, dI) vwCl (mL AB cI cZ (va_up sc 0 0) ar) H := hP
  have hD : va_D V (mL AB cI cZ (va_up sc 0 0) ar) := hD
  refine lv_iload_n hx hb dX4_effect_5 rfl (lv_at hl 1 rfl) ?_
  refine lv_iconst (v := 0) hx hb dX4_effect_6 (by decide) ?_
  refine lv_bipush (v := 7) hx hb dX4_effect_7 (by decide) ?_
  refine vp_callSi (W.runS (As := [.int (nI a), .int 0, .int 7]) (rest := []) ⟨hx, hb, hml, hown, hts⟩ (m_within l (nI a) 0 7) (va_cwS 3 hts gX4_effect_X4_within rfl rfl rfl (by decide +kernel) ⟨Nat.le_of_ble_eq_true rfl, Nat.le_of_ble_eq_true rfl⟩) ⟨bl_T, fun U hU hW => ⟨rfl, trivial⟩⟩ rfl rfl hl.1 rfl (lv_room (Nat.le_of_ble_eq_true rfl)) dX4_effect_9 ⟨Nat.zero_le _, Nat.zero_le _⟩) (fun r er => ?_)
  obtain rfl : r = b2i (wiB (nI a) 0 7) := er
  refine lv_if_ne (tgt := 21) hx hb dX4_effect_12 (by decide) (fun c12_0 => ?_) (fun c12_0 => ?_)
  · skip
    refine lv_aload_n hx hb dX4_effect_21 rfl (lv_at hl 0 rfl) ?_
    refine va_get (D := (dC, dI)) (ci := 4) (v := .ref (AB 1)) (C := RX4) (T := TX4) (N := 33) hx hb hts hinX4 hown hK hP 0 rfl rfl 1 (by decide) (hts _ (List.mem_of_getElem? (i := 2) rfl)) (fun _ h9 => h9) rfl dX4_effect_22 ?_
    refine lv_iload_n hx hb dX4_effect_25 rfl (lv_at hl 1 rfl) ?_
    refine va_zald hx hb hK hP 1 1 rfl rfl (vp_in_nI (show a < 8 by omega) (by decide)) dX4_effect_26 ?_
    rw [nI_clamp (show a < 2 ^ 31 by have := (show a < 8 by omega); omega)]
    refine lv_topi (fun y1 ey1 => ?_)
    obtain rfl : y1 = b2i (th a) := ey1.trans ((hM a ha).1)
    refine lv_if_ne (tgt := 36) hx hb dX4_effect_27 (by decide) (fun c27_2 => ?_) (fun c27_2 => ?_)
    · exact absurd ((b2i_n0.mp c27_2).symm.trans h) (by decide)
    · skip
      refine lv_aload_n hx hb dX4_effect_30 rfl (lv_at hl 0 rfl) ?_
      refine lv_iconst (v := 2) hx hb dX4_effect_31 (by decide) ?_
      have hFc := m_free (τ := (va_up sc 0 0, ar)) hD hS hA
      refine va_calli (va_runV (As := [.int 2]) (rest := []) ⟨hx, hb, hml, hown, hts⟩ (m_fail l dC dI AB cI cZ (va_up sc 0 0, ar) H.size 2) (cwV 1 hts gX4_effect_X4_fail rfl rfl rfl (by decide +kernel) ⟨Nat.le_of_ble_eq_true rfl, Nat.le_of_ble_eq_true rfl⟩) ⟨bm_F, va_recv hK hP (ci := 4) (q0 := 0) rfl rfl, fun U hU hW => ⟨rfl, by rw [hU], by rw [hU]; exact hP, va_K.moved hW.alike hK, hf_any hD⟩⟩ rfl rfl hl.1 rfl (lv_room (Nat.le_of_ble_eq_true rfl)) dX4_effect_32 ⟨Nat.zero_le _, Nat.zero_le _⟩) hS (fun q _ h => hFc q h) hFc (fun r u t H locs ht hvm hw hB hz1 hk1 hS => ?_)
      obtain ⟨hP1, hD1⟩ := hB
      rw [ht] at hP1
      obtain ⟨rfl, rfl⟩ := hw
      have hP : va_P (dC, dI) vwCl (mL AB cI cZ (va_up sc 0 2) ar) H := hP1
      have hD : va_D V (mL AB cI cZ (va_up sc 0 2) ar) := hf_weak hD1 hFc
      clear hP1 hD1 hFc
      exact W.iret hx hb hr (fun t ht hW => ⟨⟨_, (va_up sc 0 2, ar), rfl, ⟨rfl, rfl⟩, by rw [ht]; exact hP, hD⟩, hS.F ht⟩) hS.2.2 dX4_effect_35
  · exact absurd ((b2i_0.mp c12_0).symm.trans (wi_nat (n := 7) (k := a) (by omega) (by decide))) (by decide)
set_option maxHeartbeats 4000000 in
set_option maxRecDepth 100000 in
/-- effect 3 -/
theorem m_effect3 (l : Launch) (dC : Nat → ClassId) (dI : Nat → Nat → Nat) (AB : Nat → Nat) (cI cZ : ClassId) (τ : MS) (sz : Nat) {th : Nat → Bool} {ef : Nat → Nat} (hM : mok th ef τ) {a : Nat} (ha : a < 8) (f : Int32) (mk1 : Bool) (mm vv : Int32) (h1 : th a = true) (h : (dmB mm vv && wiB f 0 3) = false) : Met l yX4_effect wsX4_effect ({ frames := 12, cells := 0, slots := 0, locals := 600 }) (va_Pc [.ref (AB 0), .int (nI a), .int f, .int (b2i mk1), .int mm, .int vv] (mF dC dI AB cI cZ sz τ)) (va_Qi (fun (r : Int32) (τ2 : MS) => r = 0 ∧ τ2 = (va_up τ.1 0 3, τ.2)) (mB dC dI AB cI cZ (va_A (mW AB cI cZ τ) sz)) (va_A (mW AB cI cZ τ) sz)) 0 0 (va_A (mW AB cI cZ τ) sz) := by
  obtain ⟨sc, ar⟩ := τ
  refine Met.ofW (cc := cX4_effect) (maxL := 7) (ret := (some .int)) (by decide) rfl ?_
  intro p e s m args below meth c s₁ B hml hv
  obtain ⟨rfl, hsz, hP, hK, hD0⟩ := hv
  have hx := B.exec
  have hb := B.bytes
  have hr := B.returns
  have hts := atoms_spec (ws := wsX4_effect) B.pre
  have hown : s.vm.findClass RX4 = some m.cls := findClass_of_methodNamed B.named
  have hlocks := B.notSynchronized
  have hinX4 : ∀ w ∈ wsX40, w ∈ wsX4_effect := fun _ h => List.mem_cons_of_mem _ (List.mem_append_right _ h)
  subst hsz
  have hD := hD0.self (sz := s.heap.size)
  generalize hAe : va_A (mW AB cI cZ _) s.heap.size = V at hD ⊢
  have hA : ∀ q : Nat, s.heap.size ≤ q → V q := fun q h => by rw [← hAe]; exact Or.inr h
  have hS : va_S V s.heap s.heap [] := va_S.rf
  have hl := lv_entry ([.ref (AB 0), .int (nI a), .int f, .int (b2i mk1), .int mm, .int vv]) (n := 7) (Nat.le_of_ble_eq_true rfl)
  rw [lg_entry_eq]
  generalize (lg_sl ([.ref (AB 0), .int (nI a), .int f, .int (b2i mk1), .int mm, .int vv]) ++ List.replicate (7 - (lg_sl ([.ref (AB 0), .int (nI a), .int f, .int (b2i mk1), .int mm, .int vv])).length) Slot.unset).toArray = ls at hl ⊢
  have hl : lv_has ls 7 [(0, .ref (AB 0)), (1, .int (nI a)), (2, .int f), (3, .int (b2i mk1)), (4, .int mm), (5, .int vv)] := hl
  have hP : va_P (dC, dI) vwCl (mL AB cI cZ sc ar) s.heap := hP
  have hD : va_D V (mL AB cI cZ sc ar) := hD
  refine lv_aload_n hx hb dX4_effect_0 rfl (lv_at hl 0 rfl) ?_
  refine lv_iconst (v := 0) hx hb dX4_effect_1 (by decide) ?_
  refine va_put (D := (dC, dI)) (ci := 4) (v := .int 0) (ty := .int) (C := RX4) (T := TX4) (N := 33) hx hb hts hinX4 tyX4 tyX4_ok nmX4 hown hK hP hD hS 0 rfl rfl 0 (by decide) (hts _ (List.mem_of_getElem? (i := 1) rfl)) (fun _ h9 => h9) rfl (by decide +kernel) rfl rfl (Nat.le_of_ble_eq_true rfl) dX4_effect_2 (fun H locs hP hD hS => ?_)
  have hP : va_P (dC, dI) vwCl (mL AB cI cZ (va_up sc 0 0) ar) H := hP
  have hD : va_D V (mL AB cI cZ (va_up sc 0 0) ar) := hD
  refine lv_iload_n hx hb dX4_effect_5 rfl (lv_at hl 1 rfl) ?_
  refine lv_iconst (v := 0) hx hb dX4_effect_6 (by decide) ?_
  refine lv_bipush (v := 7) hx hb dX4_effect_7 (by decide) ?_
  refine vp_callSi (W.runS (As := [.int (nI a), .int 0, .int 7]) (rest := []) ⟨hx, hb, hml, hown, hts⟩ (m_within l (nI a) 0 7) (va_cwS 3 hts gX4_effect_X4_within rfl rfl rfl (by decide +kernel) ⟨Nat.le_of_ble_eq_true rfl, Nat.le_of_ble_eq_true rfl⟩) ⟨bl_T, fun U hU hW => ⟨rfl, trivial⟩⟩ rfl rfl hl.1 rfl (lv_room (Nat.le_of_ble_eq_true rfl)) dX4_effect_9 ⟨Nat.zero_le _, Nat.zero_le _⟩) (fun r er => ?_)
  obtain rfl : r = b2i (wiB (nI a) 0 7) := er
  refine lv_if_ne (tgt := 21) hx hb dX4_effect_12 (by decide) (fun c12_0 => ?_) (fun c12_0 => ?_)
  · skip
    refine lv_aload_n hx hb dX4_effect_21 rfl (lv_at hl 0 rfl) ?_
    refine va_get (D := (dC, dI)) (ci := 4) (v := .ref (AB 1)) (C := RX4) (T := TX4) (N := 33) hx hb hts hinX4 hown hK hP 0 rfl rfl 1 (by decide) (hts _ (List.mem_of_getElem? (i := 2) rfl)) (fun _ h9 => h9) rfl dX4_effect_22 ?_
    refine lv_iload_n hx hb dX4_effect_25 rfl (lv_at hl 1 rfl) ?_
    refine va_zald hx hb hK hP 1 1 rfl rfl (vp_in_nI (show a < 8 by omega) (by decide)) dX4_effect_26 ?_
    rw [nI_clamp (show a < 2 ^ 31 by have := (show a < 8 by omega); omega)]
    refine lv_topi (fun y1 ey1 => ?_)
    obtain rfl : y1 = b2i (th a) := ey1.trans ((hM a ha).1)
    refine lv_if_ne (tgt := 36) hx hb dX4_effect_27 (by decide) (fun c27_2 => ?_) (fun c27_2 => ?_)
    · skip
      refine lv_iload hx hb dX4_effect_36 (lv_at hl 4 rfl) ?_
      refine lv_iload hx hb dX4_effect_38 (lv_at hl 5 rfl) ?_
      refine vp_callSi (W.runS (As := [.int mm, .int vv]) (rest := []) ⟨hx, hb, hml, hown, hts⟩ (m_demand l mm vv) (va_cwS 2 hts gX4_effect_X4_demand rfl rfl rfl (by decide +kernel) ⟨Nat.le_of_ble_eq_true rfl, Nat.le_of_ble_eq_true rfl⟩) ⟨bl_T, fun U hU hW => ⟨rfl, trivial⟩⟩ rfl rfl hl.1 rfl (lv_room (Nat.le_of_ble_eq_true rfl)) dX4_effect_40 ⟨Nat.zero_le _, Nat.zero_le _⟩) (fun r er => ?_)
      obtain rfl : r = b2i (dmB mm vv) := er
      refine lv_if_eq (tgt := 55) hx hb dX4_effect_43 (by decide) (fun c43_3 => ?_) (fun c43_3 => ?_)
      · skip
        refine lv_aload_n hx hb dX4_effect_55 rfl (lv_at hl 0 rfl) ?_
        refine lv_iconst (v := 3) hx hb dX4_effect_56 (by decide) ?_
        have hFc := m_free (τ := (va_up sc 0 0, ar)) hD hS hA
        refine va_calli (va_runV (As := [.int 3]) (rest := []) ⟨hx, hb, hml, hown, hts⟩ (m_fail l dC dI AB cI cZ (va_up sc 0 0, ar) H.size 3) (cwV 1 hts gX4_effect_X4_fail rfl rfl rfl (by decide +kernel) ⟨Nat.le_of_ble_eq_true rfl, Nat.le_of_ble_eq_true rfl⟩) ⟨bm_F, va_recv hK hP (ci := 4) (q0 := 0) rfl rfl, fun U hU hW => ⟨rfl, by rw [hU], by rw [hU]; exact hP, va_K.moved hW.alike hK, hf_any hD⟩⟩ rfl rfl hl.1 rfl (lv_room (Nat.le_of_ble_eq_true rfl)) dX4_effect_57 ⟨Nat.zero_le _, Nat.zero_le _⟩) hS (fun q _ h => hFc q h) hFc (fun r u t H locs ht hvm hw hB hz1 hk1 hS => ?_)
        obtain ⟨hP1, hD1⟩ := hB
        rw [ht] at hP1
        obtain ⟨rfl, rfl⟩ := hw
        have hP : va_P (dC, dI) vwCl (mL AB cI cZ (va_up sc 0 3) ar) H := hP1
        have hD : va_D V (mL AB cI cZ (va_up sc 0 3) ar) := hf_weak hD1 hFc
        clear hP1 hD1 hFc
        exact W.iret hx hb hr (fun t ht hW => ⟨⟨_, (va_up sc 0 3, ar), rfl, ⟨rfl, rfl⟩, by rw [ht]; exact hP, hD⟩, hS.F ht⟩) hS.2.2 dX4_effect_60
      · skip
        refine lv_iload_n hx hb dX4_effect_46 rfl (lv_at hl 2 rfl) ?_
        refine lv_iconst (v := 0) hx hb dX4_effect_47 (by decide) ?_
        refine lv_iconst (v := 3) hx hb dX4_effect_48 (by decide) ?_
        refine vp_callSi (W.runS (As := [.int f, .int 0, .int 3]) (rest := []) ⟨hx, hb, hml, hown, hts⟩ (m_within l f 0 3) (va_cwS 3 hts gX4_effect_X4_within rfl rfl rfl (by decide +kernel) ⟨Nat.le_of_ble_eq_true rfl, Nat.le_of_ble_eq_true rfl⟩) ⟨bl_T, fun U hU hW => ⟨rfl, trivial⟩⟩ rfl rfl hl.1 rfl (lv_room (Nat.le_of_ble_eq_true rfl)) dX4_effect_49 ⟨Nat.zero_le _, Nat.zero_le _⟩) (fun r er => ?_)
        obtain rfl : r = b2i (wiB f 0 3) := er
        refine lv_if_ne (tgt := 61) hx hb dX4_effect_52 (by decide) (fun c52_4 => ?_) (fun c52_4 => ?_)
        · exact absurd h (by rw [b2i_n0.mp c43_3, b2i_n0.mp c52_4]; decide)
        · skip
          refine lv_aload_n hx hb dX4_effect_55 rfl (lv_at hl 0 rfl) ?_
          refine lv_iconst (v := 3) hx hb dX4_effect_56 (by decide) ?_
          have hFc := m_free (τ := (va_up sc 0 0, ar)) hD hS hA
          refine va_calli (va_runV (As := [.int 3]) (rest := []) ⟨hx, hb, hml, hown, hts⟩ (m_fail l dC dI AB cI cZ (va_up sc 0 0, ar) H.size 3) (cwV 1 hts gX4_effect_X4_fail rfl rfl rfl (by decide +kernel) ⟨Nat.le_of_ble_eq_true rfl, Nat.le_of_ble_eq_true rfl⟩) ⟨bm_F, va_recv hK hP (ci := 4) (q0 := 0) rfl rfl, fun U hU hW => ⟨rfl, by rw [hU], by rw [hU]; exact hP, va_K.moved hW.alike hK, hf_any hD⟩⟩ rfl rfl hl.1 rfl (lv_room (Nat.le_of_ble_eq_true rfl)) dX4_effect_57 ⟨Nat.zero_le _, Nat.zero_le _⟩) hS (fun q _ h => hFc q h) hFc (fun r u t H locs ht hvm hw hB hz1 hk1 hS => ?_)
          obtain ⟨hP1, hD1⟩ := hB
          rw [ht] at hP1
          obtain ⟨rfl, rfl⟩ := hw
          have hP : va_P (dC, dI) vwCl (mL AB cI cZ (va_up sc 0 3) ar) H := hP1
          have hD : va_D V (mL AB cI cZ (va_up sc 0 3) ar) := hf_weak hD1 hFc
          clear hP1 hD1 hFc
          exact W.iret hx hb hr (fun t ht hW => ⟨⟨_, (va_up sc 0 3, ar), rfl, ⟨rfl, rfl⟩, by rw [ht]; exact hP, hD⟩, hS.F ht⟩) hS.2.2 dX4_effect_60
    · exact absurd ((b2i_0.mp c27_2).symm.trans h1) (by decide)
  · exact absurd ((b2i_0.mp c12_0).symm.trans (wi_nat (n := 7) (k := a) (by omega) (by decide))) (by decide)
set_option maxHeartbeats 4000000 in
set_option maxRecDepth 100000 in
/-- effect 4 -/
theorem m_effect4 (l : Launch) (dC : Nat → ClassId) (dI : Nat → Nat → Nat) (AB : Nat → Nat) (cI cZ : ClassId) (τ : MS) (sz : Nat) {th : Nat → Bool} {ef : Nat → Nat} (hM : mok th ef τ) {a : Nat} (ha : a < 8) (f : Int32) (mk1 : Bool) (mm vv : Int32) (h1 : th a = true) (h2 : dmB mm vv = true) (h3 : wiB f 0 3 = true) (h : ef a = 4) : Met l yX4_effect wsX4_effect ({ frames := 12, cells := 0, slots := 0, locals := 600 }) (va_Pc [.ref (AB 0), .int (nI a), .int f, .int (b2i mk1), .int mm, .int vv] (mF dC dI AB cI cZ sz τ)) (va_Qi (fun (r : Int32) (τ2 : MS) => r = 0 ∧ τ2 = (va_up τ.1 0 4, τ.2)) (mB dC dI AB cI cZ (va_A (mW AB cI cZ τ) sz)) (va_A (mW AB cI cZ τ) sz)) 0 0 (va_A (mW AB cI cZ τ) sz) := by
  obtain ⟨sc, ar⟩ := τ
  refine Met.ofW (cc := cX4_effect) (maxL := 7) (ret := (some .int)) (by decide) rfl ?_
  intro p e s m args below meth c s₁ B hml hv
  obtain ⟨rfl, hsz, hP, hK, hD0⟩ := hv
  have hx := B.exec
  have hb := B.bytes
  have hr := B.returns
  have hts := atoms_spec (ws := wsX4_effect) B.pre
  have hown : s.vm.findClass RX4 = some m.cls := findClass_of_methodNamed B.named
  have hlocks := B.notSynchronized
  have hinX4 : ∀ w ∈ wsX40, w ∈ wsX4_effect := fun _ h => List.mem_cons_of_mem _ (List.mem_append_right _ h)
  subst hsz
  have hD := hD0.self (sz := s.heap.size)
  generalize hAe : va_A (mW AB cI cZ _) s.heap.size = V at hD ⊢
  have hA : ∀ q : Nat, s.heap.size ≤ q → V q := fun q h => by rw [← hAe]; exact Or.inr h
  have hS : va_S V s.heap s.heap [] := va_S.rf
  have hl := lv_entry ([.ref (AB 0), .int (nI a), .int f, .int (b2i mk1), .int mm, .int vv]) (n := 7) (Nat.le_of_ble_eq_true rfl)
  rw [lg_entry_eq]
  generalize (lg_sl ([.ref (AB 0), .int (nI a), .int f, .int (b2i mk1), .int mm, .int vv]) ++ List.replicate (7 - (lg_sl ([.ref (AB 0), .int (nI a), .int f, .int (b2i mk1), .int mm, .int vv])).length) Slot.unset).toArray = ls at hl ⊢
  have hl : lv_has ls 7 [(0, .ref (AB 0)), (1, .int (nI a)), (2, .int f), (3, .int (b2i mk1)), (4, .int mm), (5, .int vv)] := hl
  have hP : va_P (dC, dI) vwCl (mL AB cI cZ sc ar) s.heap := hP
  have hD : va_D V (mL AB cI cZ sc ar) := hD
  refine lv_aload_n hx hb dX4_effect_0 rfl (lv_at hl 0 rfl) ?_
  refine lv_iconst (v := 0) hx hb dX4_effect_1 (by decide) ?_
  refine va_put (D := (dC, dI)) (ci := 4) (v := .int 0) (ty := .int) (C := RX4) (T := TX4) (N := 33) hx hb hts hinX4 tyX4 tyX4_ok nmX4 hown hK hP hD hS 0 rfl rfl 0 (by decide) (hts _ (List.mem_of_getElem? (i := 1) rfl)) (fun _ h9 => h9) rfl (by decide +kernel) rfl rfl (Nat.le_of_ble_eq_true rfl) dX4_effect_2 (fun H locs hP hD hS => ?_)
  have hP : va_P (dC, dI) vwCl (mL AB cI cZ (va_up sc 0 0) ar) H := hP
  have hD : va_D V (mL AB cI cZ (va_up sc 0 0) ar) := hD
  refine lv_iload_n hx hb dX4_effect_5 rfl (lv_at hl 1 rfl) ?_
  refine lv_iconst (v := 0) hx hb dX4_effect_6 (by decide) ?_
  refine lv_bipush (v := 7) hx hb dX4_effect_7 (by decide) ?_
  refine vp_callSi (W.runS (As := [.int (nI a), .int 0, .int 7]) (rest := []) ⟨hx, hb, hml, hown, hts⟩ (m_within l (nI a) 0 7) (va_cwS 3 hts gX4_effect_X4_within rfl rfl rfl (by decide +kernel) ⟨Nat.le_of_ble_eq_true rfl, Nat.le_of_ble_eq_true rfl⟩) ⟨bl_T, fun U hU hW => ⟨rfl, trivial⟩⟩ rfl rfl hl.1 rfl (lv_room (Nat.le_of_ble_eq_true rfl)) dX4_effect_9 ⟨Nat.zero_le _, Nat.zero_le _⟩) (fun r er => ?_)
  obtain rfl : r = b2i (wiB (nI a) 0 7) := er
  refine lv_if_ne (tgt := 21) hx hb dX4_effect_12 (by decide) (fun c12_0 => ?_) (fun c12_0 => ?_)
  · skip
    refine lv_aload_n hx hb dX4_effect_21 rfl (lv_at hl 0 rfl) ?_
    refine va_get (D := (dC, dI)) (ci := 4) (v := .ref (AB 1)) (C := RX4) (T := TX4) (N := 33) hx hb hts hinX4 hown hK hP 0 rfl rfl 1 (by decide) (hts _ (List.mem_of_getElem? (i := 2) rfl)) (fun _ h9 => h9) rfl dX4_effect_22 ?_
    refine lv_iload_n hx hb dX4_effect_25 rfl (lv_at hl 1 rfl) ?_
    refine va_zald hx hb hK hP 1 1 rfl rfl (vp_in_nI (show a < 8 by omega) (by decide)) dX4_effect_26 ?_
    rw [nI_clamp (show a < 2 ^ 31 by have := (show a < 8 by omega); omega)]
    refine lv_topi (fun y1 ey1 => ?_)
    obtain rfl : y1 = b2i (th a) := ey1.trans ((hM a ha).1)
    refine lv_if_ne (tgt := 36) hx hb dX4_effect_27 (by decide) (fun c27_2 => ?_) (fun c27_2 => ?_)
    · skip
      refine lv_iload hx hb dX4_effect_36 (lv_at hl 4 rfl) ?_
      refine lv_iload hx hb dX4_effect_38 (lv_at hl 5 rfl) ?_
      refine vp_callSi (W.runS (As := [.int mm, .int vv]) (rest := []) ⟨hx, hb, hml, hown, hts⟩ (m_demand l mm vv) (va_cwS 2 hts gX4_effect_X4_demand rfl rfl rfl (by decide +kernel) ⟨Nat.le_of_ble_eq_true rfl, Nat.le_of_ble_eq_true rfl⟩) ⟨bl_T, fun U hU hW => ⟨rfl, trivial⟩⟩ rfl rfl hl.1 rfl (lv_room (Nat.le_of_ble_eq_true rfl)) dX4_effect_40 ⟨Nat.zero_le _, Nat.zero_le _⟩) (fun r er => ?_)
      obtain rfl : r = b2i (dmB mm vv) := er
      refine lv_if_eq (tgt := 55) hx hb dX4_effect_43 (by decide) (fun c43_3 => ?_) (fun c43_3 => ?_)
      · exact absurd ((b2i_0.mp c43_3).symm.trans h2) (by decide)
      · skip
        refine lv_iload_n hx hb dX4_effect_46 rfl (lv_at hl 2 rfl) ?_
        refine lv_iconst (v := 0) hx hb dX4_effect_47 (by decide) ?_
        refine lv_iconst (v := 3) hx hb dX4_effect_48 (by decide) ?_
        refine vp_callSi (W.runS (As := [.int f, .int 0, .int 3]) (rest := []) ⟨hx, hb, hml, hown, hts⟩ (m_within l f 0 3) (va_cwS 3 hts gX4_effect_X4_within rfl rfl rfl (by decide +kernel) ⟨Nat.le_of_ble_eq_true rfl, Nat.le_of_ble_eq_true rfl⟩) ⟨bl_T, fun U hU hW => ⟨rfl, trivial⟩⟩ rfl rfl hl.1 rfl (lv_room (Nat.le_of_ble_eq_true rfl)) dX4_effect_49 ⟨Nat.zero_le _, Nat.zero_le _⟩) (fun r er => ?_)
        obtain rfl : r = b2i (wiB f 0 3) := er
        refine lv_if_ne (tgt := 61) hx hb dX4_effect_52 (by decide) (fun c52_4 => ?_) (fun c52_4 => ?_)
        · skip
          refine lv_aload_n hx hb dX4_effect_61 rfl (lv_at hl 0 rfl) ?_
          refine va_get (D := (dC, dI)) (ci := 4) (v := .ref (AB 5)) (C := RX4) (T := TX4) (N := 33) hx hb hts hinX4 hown hK hP 0 rfl rfl 5 (by decide) (hts _ (List.mem_of_getElem? (i := 3) rfl)) (fun _ h9 => h9) rfl dX4_effect_62 ?_
          refine lv_iload_n hx hb dX4_effect_65 rfl (lv_at hl 1 rfl) ?_
          refine va_iald hx hb hK hP 5 0 rfl rfl (vp_in_nI (show a < 8 by omega) (by decide)) dX4_effect_66 ?_
          rw [nI_clamp (show a < 2 ^ 31 by have := (show a < 8 by omega); omega)]
          refine lv_topi (fun y5 ey5 => ?_)
          obtain rfl : y5 = nI (ef a) := ey5.trans ((hM a ha).2.1)
          refine lv_iconst (v := 4) hx hb dX4_effect_67 (by decide) ?_
          refine lv_icmp_ne (tgt := 77) hx hb dX4_effect_68 (by decide) (fun c68_6 => ?_) (fun c68_6 => ?_)
          · exact absurd (by rw [h]; rfl) c68_6
          · skip
            refine lv_aload_n hx hb dX4_effect_71 rfl (lv_at hl 0 rfl) ?_
            refine lv_iconst (v := 4) hx hb dX4_effect_72 (by decide) ?_
            have hFc := m_free (τ := (va_up sc 0 0, ar)) hD hS hA
            refine va_calli (va_runV (As := [.int 4]) (rest := []) ⟨hx, hb, hml, hown, hts⟩ (m_fail l dC dI AB cI cZ (va_up sc 0 0, ar) H.size 4) (cwV 1 hts gX4_effect_X4_fail rfl rfl rfl (by decide +kernel) ⟨Nat.le_of_ble_eq_true rfl, Nat.le_of_ble_eq_true rfl⟩) ⟨bm_F, va_recv hK hP (ci := 4) (q0 := 0) rfl rfl, fun U hU hW => ⟨rfl, by rw [hU], by rw [hU]; exact hP, va_K.moved hW.alike hK, hf_any hD⟩⟩ rfl rfl hl.1 rfl (lv_room (Nat.le_of_ble_eq_true rfl)) dX4_effect_73 ⟨Nat.zero_le _, Nat.zero_le _⟩) hS (fun q _ h => hFc q h) hFc (fun r u t H locs ht hvm hw hB hz1 hk1 hS => ?_)
            obtain ⟨hP1, hD1⟩ := hB
            rw [ht] at hP1
            obtain ⟨rfl, rfl⟩ := hw
            have hP : va_P (dC, dI) vwCl (mL AB cI cZ (va_up sc 0 4) ar) H := hP1
            have hD : va_D V (mL AB cI cZ (va_up sc 0 4) ar) := hf_weak hD1 hFc
            clear hP1 hD1 hFc
            exact W.iret hx hb hr (fun t ht hW => ⟨⟨_, (va_up sc 0 4, ar), rfl, ⟨rfl, rfl⟩, by rw [ht]; exact hP, hD⟩, hS.F ht⟩) hS.2.2 dX4_effect_76
        · exact absurd ((b2i_0.mp c52_4).symm.trans h3) (by decide)
    · exact absurd ((b2i_0.mp c27_2).symm.trans h1) (by decide)
  · exact absurd ((b2i_0.mp c12_0).symm.trans (wi_nat (n := 7) (k := a) (by omega) (by decide))) (by decide)
set_option maxHeartbeats 4000000 in
set_option maxRecDepth 100000 in
/-- effect 0 -/
theorem m_effect0 (l : Launch) (dC : Nat → ClassId) (dI : Nat → Nat → Nat) (AB : Nat → Nat) (cI cZ : ClassId) (τ : MS) (sz : Nat) {th : Nat → Bool} {ef : Nat → Nat} (hM : mok th ef τ) {a : Nat} (ha : a < 8) (f : Int32) (mk1 : Bool) (mm vv : Int32) (h1 : th a = true) (h2 : dmB mm vv = true) (h3 : wiB f 0 3 = true) (h : ef a < 4) : Met l yX4_effect wsX4_effect ({ frames := 12, cells := 0, slots := 0, locals := 600 }) (va_Pc [.ref (AB 0), .int (nI a), .int f, .int (b2i mk1), .int mm, .int vv] (mF dC dI AB cI cZ sz τ)) (va_Qi (fun (r : Int32) (τ2 : MS) => r = nI (ef a + 1) ∧ τ2 = (va_up τ.1 0 0, va_up (va_up (va_up (va_up (va_up τ.2 5 (upd (τ.2 5) a (nI (ef a + 1)))) 6 (upd (τ.2 6) (4 * a + ef a) f)) 7 (upd (τ.2 7) (4 * a + ef a) (b2i mk1))) 8 (upd (τ.2 8) (4 * a + ef a) mm)) 9 (upd (τ.2 9) (4 * a + ef a) vv))) (mB dC dI AB cI cZ (va_A (mW AB cI cZ τ) sz)) (va_A (mW AB cI cZ τ) sz)) 0 0 (va_A (mW AB cI cZ τ) sz) := by
  obtain ⟨sc, ar⟩ := τ
  refine Met.ofW (cc := cX4_effect) (maxL := 7) (ret := (some .int)) (by decide) rfl ?_
  intro p e s m args below meth c s₁ B hml hv
  obtain ⟨rfl, hsz, hP, hK, hD0⟩ := hv
  have hx := B.exec
  have hb := B.bytes
  have hr := B.returns
  have hts := atoms_spec (ws := wsX4_effect) B.pre
  have hown : s.vm.findClass RX4 = some m.cls := findClass_of_methodNamed B.named
  have hlocks := B.notSynchronized
  have hinX4 : ∀ w ∈ wsX40, w ∈ wsX4_effect := fun _ h => List.mem_cons_of_mem _ (List.mem_append_right _ h)
  subst hsz
  have hD := hD0.self (sz := s.heap.size)
  generalize hAe : va_A (mW AB cI cZ _) s.heap.size = V at hD ⊢
  have hA : ∀ q : Nat, s.heap.size ≤ q → V q := fun q h => by rw [← hAe]; exact Or.inr h
  have hS : va_S V s.heap s.heap [] := va_S.rf
  have hl := lv_entry ([.ref (AB 0), .int (nI a), .int f, .int (b2i mk1), .int mm, .int vv]) (n := 7) (Nat.le_of_ble_eq_true rfl)
  rw [lg_entry_eq]
  generalize (lg_sl ([.ref (AB 0), .int (nI a), .int f, .int (b2i mk1), .int mm, .int vv]) ++ List.replicate (7 - (lg_sl ([.ref (AB 0), .int (nI a), .int f, .int (b2i mk1), .int mm, .int vv])).length) Slot.unset).toArray = ls at hl ⊢
  have hl : lv_has ls 7 [(0, .ref (AB 0)), (1, .int (nI a)), (2, .int f), (3, .int (b2i mk1)), (4, .int mm), (5, .int vv)] := hl
  have hP : va_P (dC, dI) vwCl (mL AB cI cZ sc ar) s.heap := hP
  have hD : va_D V (mL AB cI cZ sc ar) := hD
  refine lv_aload_n hx hb dX4_effect_0 rfl (lv_at hl 0 rfl) ?_
  refine lv_iconst (v := 0) hx hb dX4_effect_1 (by decide) ?_
  refine va_put (D := (dC, dI)) (ci := 4) (v := .int 0) (ty := .int) (C := RX4) (T := TX4) (N := 33) hx hb hts hinX4 tyX4 tyX4_ok nmX4 hown hK hP hD hS 0 rfl rfl 0 (by decide) (hts _ (List.mem_of_getElem? (i := 1) rfl)) (fun _ h9 => h9) rfl (by decide +kernel) rfl rfl (Nat.le_of_ble_eq_true rfl) dX4_effect_2 (fun H locs hP hD hS => ?_)
  have hP : va_P (dC, dI) vwCl (mL AB cI cZ (va_up sc 0 0) ar) H := hP
  have hD : va_D V (mL AB cI cZ (va_up sc 0 0) ar) := hD
  refine lv_iload_n hx hb dX4_effect_5 rfl (lv_at hl 1 rfl) ?_
  refine lv_iconst (v := 0) hx hb dX4_effect_6 (by decide) ?_
  refine lv_bipush (v := 7) hx hb dX4_effect_7 (by decide) ?_
  refine vp_callSi (W.runS (As := [.int (nI a), .int 0, .int 7]) (rest := []) ⟨hx, hb, hml, hown, hts⟩ (m_within l (nI a) 0 7) (va_cwS 3 hts gX4_effect_X4_within rfl rfl rfl (by decide +kernel) ⟨Nat.le_of_ble_eq_true rfl, Nat.le_of_ble_eq_true rfl⟩) ⟨bl_T, fun U hU hW => ⟨rfl, trivial⟩⟩ rfl rfl hl.1 rfl (lv_room (Nat.le_of_ble_eq_true rfl)) dX4_effect_9 ⟨Nat.zero_le _, Nat.zero_le _⟩) (fun r er => ?_)
  obtain rfl : r = b2i (wiB (nI a) 0 7) := er
  refine lv_if_ne (tgt := 21) hx hb dX4_effect_12 (by decide) (fun c12_0 => ?_) (fun c12_0 => ?_)
  · skip
    refine lv_aload_n hx hb dX4_effect_21 rfl (lv_at hl 0 rfl) ?_
    refine va_get (D := (dC, dI)) (ci := 4) (v := .ref (AB 1)) (C := RX4) (T := TX4) (N := 33) hx hb hts hinX4 hown hK hP 0 rfl rfl 1 (by decide) (hts _ (List.mem_of_getElem? (i := 2) rfl)) (fun _ h9 => h9) rfl dX4_effect_22 ?_
    refine lv_iload_n hx hb dX4_effect_25 rfl (lv_at hl 1 rfl) ?_
    refine va_zald hx hb hK hP 1 1 rfl rfl (vp_in_nI (show a < 8 by omega) (by decide)) dX4_effect_26 ?_
    rw [nI_clamp (show a < 2 ^ 31 by have := (show a < 8 by omega); omega)]
    refine lv_topi (fun y1 ey1 => ?_)
    obtain rfl : y1 = b2i (th a) := ey1.trans ((hM a ha).1)
    refine lv_if_ne (tgt := 36) hx hb dX4_effect_27 (by decide) (fun c27_2 => ?_) (fun c27_2 => ?_)
    · skip
      refine lv_iload hx hb dX4_effect_36 (lv_at hl 4 rfl) ?_
      refine lv_iload hx hb dX4_effect_38 (lv_at hl 5 rfl) ?_
      refine vp_callSi (W.runS (As := [.int mm, .int vv]) (rest := []) ⟨hx, hb, hml, hown, hts⟩ (m_demand l mm vv) (va_cwS 2 hts gX4_effect_X4_demand rfl rfl rfl (by decide +kernel) ⟨Nat.le_of_ble_eq_true rfl, Nat.le_of_ble_eq_true rfl⟩) ⟨bl_T, fun U hU hW => ⟨rfl, trivial⟩⟩ rfl rfl hl.1 rfl (lv_room (Nat.le_of_ble_eq_true rfl)) dX4_effect_40 ⟨Nat.zero_le _, Nat.zero_le _⟩) (fun r er => ?_)
      obtain rfl : r = b2i (dmB mm vv) := er
      refine lv_if_eq (tgt := 55) hx hb dX4_effect_43 (by decide) (fun c43_3 => ?_) (fun c43_3 => ?_)
      · exact absurd ((b2i_0.mp c43_3).symm.trans h2) (by decide)
      · skip
        refine lv_iload_n hx hb dX4_effect_46 rfl (lv_at hl 2 rfl) ?_
        refine lv_iconst (v := 0) hx hb dX4_effect_47 (by decide) ?_
        refine lv_iconst (v := 3) hx hb dX4_effect_48 (by decide) ?_
        refine vp_callSi (W.runS (As := [.int f, .int 0, .int 3]) (rest := []) ⟨hx, hb, hml, hown, hts⟩ (m_within l f 0 3) (va_cwS 3 hts gX4_effect_X4_within rfl rfl rfl (by decide +kernel) ⟨Nat.le_of_ble_eq_true rfl, Nat.le_of_ble_eq_true rfl⟩) ⟨bl_T, fun U hU hW => ⟨rfl, trivial⟩⟩ rfl rfl hl.1 rfl (lv_room (Nat.le_of_ble_eq_true rfl)) dX4_effect_49 ⟨Nat.zero_le _, Nat.zero_le _⟩) (fun r er => ?_)
        obtain rfl : r = b2i (wiB f 0 3) := er
        refine lv_if_ne (tgt := 61) hx hb dX4_effect_52 (by decide) (fun c52_4 => ?_) (fun c52_4 => ?_)
        · skip
          refine lv_aload_n hx hb dX4_effect_61 rfl (lv_at hl 0 rfl) ?_
          refine va_get (D := (dC, dI)) (ci := 4) (v := .ref (AB 5)) (C := RX4) (T := TX4) (N := 33) hx hb hts hinX4 hown hK hP 0 rfl rfl 5 (by decide) (hts _ (List.mem_of_getElem? (i := 3) rfl)) (fun _ h9 => h9) rfl dX4_effect_62 ?_
          refine lv_iload_n hx hb dX4_effect_65 rfl (lv_at hl 1 rfl) ?_
          refine va_iald hx hb hK hP 5 0 rfl rfl (vp_in_nI (show a < 8 by omega) (by decide)) dX4_effect_66 ?_
          rw [nI_clamp (show a < 2 ^ 31 by have := (show a < 8 by omega); omega)]
          refine lv_topi (fun y5 ey5 => ?_)
          obtain rfl : y5 = nI (ef a) := ey5.trans ((hM a ha).2.1)
          refine lv_iconst (v := 4) hx hb dX4_effect_67 (by decide) ?_
          refine lv_icmp_ne (tgt := 77) hx hb dX4_effect_68 (by decide) (fun c68_6 => ?_) (fun c68_6 => ?_)
          · skip
            refine lv_iconst (v := 4) hx hb dX4_effect_77 (by decide) ?_
            refine lv_iload_n hx hb dX4_effect_78 rfl (lv_at hl 1 rfl) ?_
            refine lv_imul hx hb dX4_effect_79 ?_
            refine lv_topi (fun y7 ey7 => ?_)
            obtain rfl : y7 = nI (4 * a) := ey7.trans (pk_mul 4 a)
            refine lv_aload_n hx hb dX4_effect_80 rfl (lv_at hl 0 rfl) ?_
            refine va_get (D := (dC, dI)) (ci := 4) (v := .ref (AB 5)) (C := RX4) (T := TX4) (N := 33) hx hb hts hinX4 hown hK hP 0 rfl rfl 5 (by decide) (hts _ (List.mem_of_getElem? (i := 3) rfl)) (fun _ h9 => h9) rfl dX4_effect_81 ?_
            refine lv_iload_n hx hb dX4_effect_84 rfl (lv_at hl 1 rfl) ?_
            refine va_iald hx hb hK hP 5 0 rfl rfl (vp_in_nI (show a < 8 by omega) (by decide)) dX4_effect_85 ?_
            rw [nI_clamp (show a < 2 ^ 31 by have := (show a < 8 by omega); omega)]
            refine lv_topi (fun y8 ey8 => ?_)
            obtain rfl : y8 = nI (ef a) := ey8.trans ((hM a ha).2.1)
            refine lv_iadd hx hb dX4_effect_86 ?_
            refine lv_topi (fun y9 ey9 => ?_)
            obtain rfl : y9 = nI (4 * a + ef a) := ey9.trans (nI_add (4 * a) (ef a))
            refine lv_istore (lv' := [(6, .int (nI (4 * a + ef a))), (0, .ref (AB 0)), (1, .int (nI a)), (2, .int f), (3, .int (b2i mk1)), (4, .int mm), (5, .int vv)]) hx hb dX4_effect_87 hl (by decide) rfl (fun ls hl => ?_)
            refine lv_aload_n hx hb dX4_effect_89 rfl (lv_at hl 1 rfl) ?_
            refine va_get (D := (dC, dI)) (ci := 4) (v := .ref (AB 6)) (C := RX4) (T := TX4) (N := 33) hx hb hts hinX4 hown hK hP 0 rfl rfl 6 (by decide) (hts _ (List.mem_of_getElem? (i := 4) rfl)) (fun _ h9 => h9) rfl dX4_effect_90 ?_
            refine lv_iload hx hb dX4_effect_93 (lv_at hl 0 rfl) ?_
            refine lv_iload_n hx hb dX4_effect_95 rfl (lv_at hl 3 rfl) ?_
            refine va_iast hx hb hK hP hD hS 6 0 rfl rfl (vp_in_nI (show (4 * a + ef a) < 32 by omega) (by decide)) dX4_effect_96 (fun H locs hP hD hS => ?_)
            rw [nI_clamp (show (4 * a + ef a) < 2 ^ 31 by have := (show (4 * a + ef a) < 32 by omega); omega)] at hP hD
            have hP : va_P (dC, dI) vwCl (mL AB cI cZ (va_up sc 0 0) (va_up ar 6 (upd (ar 6) (4 * a + ef a) f))) H := hP
            have hD : va_D V (mL AB cI cZ (va_up sc 0 0) (va_up ar 6 (upd (ar 6) (4 * a + ef a) f))) := hD
            refine lv_aload_n hx hb dX4_effect_97 rfl (lv_at hl 1 rfl) ?_
            refine va_get (D := (dC, dI)) (ci := 4) (v := .ref (AB 7)) (C := RX4) (T := TX4) (N := 33) hx hb hts hinX4 hown hK hP 0 rfl rfl 7 (by decide) (hts _ (List.mem_of_getElem? (i := 5) rfl)) (fun _ h9 => h9) rfl dX4_effect_98 ?_
            refine lv_iload hx hb dX4_effect_101 (lv_at hl 0 rfl) ?_
            refine lv_iload_n hx hb dX4_effect_103 rfl (lv_at hl 4 rfl) ?_
            refine va_zast hx hb hK hP hD hS 7 1 rfl rfl (vp_in_nI (show (4 * a + ef a) < 32 by omega) (by decide)) dX4_effect_104 (fun H locs hP hD hS => ?_)
            rw [nI_clamp (show (4 * a + ef a) < 2 ^ 31 by have := (show (4 * a + ef a) < 32 by omega); omega)] at hP hD
            rw [vp_narb] at hP hD
            have hP : va_P (dC, dI) vwCl (mL AB cI cZ (va_up sc 0 0) (va_up (va_up ar 6 (upd (ar 6) (4 * a + ef a) f)) 7 (upd (ar 7) (4 * a + ef a) (b2i mk1)))) H := hP
            have hD : va_D V (mL AB cI cZ (va_up sc 0 0) (va_up (va_up ar 6 (upd (ar 6) (4 * a + ef a) f)) 7 (upd (ar 7) (4 * a + ef a) (b2i mk1)))) := hD
            refine lv_aload_n hx hb dX4_effect_105 rfl (lv_at hl 1 rfl) ?_
            refine va_get (D := (dC, dI)) (ci := 4) (v := .ref (AB 8)) (C := RX4) (T := TX4) (N := 33) hx hb hts hinX4 hown hK hP 0 rfl rfl 8 (by decide) (hts _ (List.mem_of_getElem? (i := 6) rfl)) (fun _ h9 => h9) rfl dX4_effect_106 ?_
            refine lv_iload hx hb dX4_effect_109 (lv_at hl 0 rfl) ?_
            refine lv_iload hx hb dX4_effect_111 (lv_at hl 5 rfl) ?_
            refine va_iast hx hb hK hP hD hS 8 0 rfl rfl (vp_in_nI (show (4 * a + ef a) < 32 by omega) (by decide)) dX4_effect_113 (fun H locs hP hD hS => ?_)
            rw [nI_clamp (show (4 * a + ef a) < 2 ^ 31 by have := (show (4 * a + ef a) < 32 by omega); omega)] at hP hD
            have hP : va_P (dC, dI) vwCl (mL AB cI cZ (va_up sc 0 0) (va_up (va_up (va_up ar 6 (upd (ar 6) (4 * a + ef a) f)) 7 (upd (ar 7) (4 * a + ef a) (b2i mk1))) 8 (upd (ar 8) (4 * a + ef a) mm))) H := hP
            have hD : va_D V (mL AB cI cZ (va_up sc 0 0) (va_up (va_up (va_up ar 6 (upd (ar 6) (4 * a + ef a) f)) 7 (upd (ar 7) (4 * a + ef a) (b2i mk1))) 8 (upd (ar 8) (4 * a + ef a) mm))) := hD
            refine lv_aload_n hx hb dX4_effect_114 rfl (lv_at hl 1 rfl) ?_
            refine va_get (D := (dC, dI)) (ci := 4) (v := .ref (AB 9)) (C := RX4) (T := TX4) (N := 33) hx hb hts hinX4 hown hK hP 0 rfl rfl 9 (by decide) (hts _ (List.mem_of_getElem? (i := 7) rfl)) (fun _ h9 => h9) rfl dX4_effect_115 ?_
            refine lv_iload hx hb dX4_effect_118 (lv_at hl 0 rfl) ?_
            refine lv_iload hx hb dX4_effect_120 (lv_at hl 6 rfl) ?_
            refine va_iast hx hb hK hP hD hS 9 0 rfl rfl (vp_in_nI (show (4 * a + ef a) < 32 by omega) (by decide)) dX4_effect_122 (fun H locs hP hD hS => ?_)
            rw [nI_clamp (show (4 * a + ef a) < 2 ^ 31 by have := (show (4 * a + ef a) < 32 by omega); omega)] at hP hD
            have hP : va_P (dC, dI) vwCl (mL AB cI cZ (va_up sc 0 0) (va_up (va_up (va_up (va_up ar 6 (upd (ar 6) (4 * a + ef a) f)) 7 (upd (ar 7) (4 * a + ef a) (b2i mk1))) 8 (upd (ar 8) (4 * a + ef a) mm)) 9 (upd (ar 9) (4 * a + ef a) vv))) H := hP
            have hD : va_D V (mL AB cI cZ (va_up sc 0 0) (va_up (va_up (va_up (va_up ar 6 (upd (ar 6) (4 * a + ef a) f)) 7 (upd (ar 7) (4 * a + ef a) (b2i mk1))) 8 (upd (ar 8) (4 * a + ef a) mm)) 9 (upd (ar 9) (4 * a + ef a) vv))) := hD
            refine lv_aload_n hx hb dX4_effect_123 rfl (lv_at hl 1 rfl) ?_
            refine va_get (D := (dC, dI)) (ci := 4) (v := .ref (AB 5)) (C := RX4) (T := TX4) (N := 33) hx hb hts hinX4 hown hK hP 0 rfl rfl 5 (by decide) (hts _ (List.mem_of_getElem? (i := 3) rfl)) (fun _ h9 => h9) rfl dX4_effect_124 ?_
            refine lv_iload_n hx hb dX4_effect_127 rfl (lv_at hl 2 rfl) ?_
            refine lv_dup2_11 hx hb dX4_effect_128 rfl rfl ?_
            refine va_iald hx hb hK hP 5 0 rfl rfl (vp_in_nI (show a < 8 by omega) (by decide)) dX4_effect_129 ?_
            rw [nI_clamp (show a < 2 ^ 31 by have := (show a < 8 by omega); omega)]
            refine lv_topi (fun y10 ey10 => ?_)
            obtain rfl : y10 = nI (ef a) := ey10.trans ((hM a ha).2.1)
            refine lv_iconst (v := 1) hx hb dX4_effect_130 (by decide) ?_
            refine lv_iadd hx hb dX4_effect_131 ?_
            refine lv_topi (fun y11 ey11 => ?_)
            obtain rfl : y11 = nI (ef a + 1) := ey11.trans (nI_1 (ef a))
            refine va_iast hx hb hK hP hD hS 5 0 rfl rfl (vp_in_nI (show a < 8 by omega) (by decide)) dX4_effect_132 (fun H locs hP hD hS => ?_)
            rw [nI_clamp (show a < 2 ^ 31 by have := (show a < 8 by omega); omega)] at hP hD
            have hP : va_P (dC, dI) vwCl (mL AB cI cZ (va_up sc 0 0) (va_up (va_up (va_up (va_up (va_up ar 5 (upd (ar 5) a (nI (ef a + 1)))) 6 (upd (ar 6) (4 * a + ef a) f)) 7 (upd (ar 7) (4 * a + ef a) (b2i mk1))) 8 (upd (ar 8) (4 * a + ef a) mm)) 9 (upd (ar 9) (4 * a + ef a) vv))) H := hP
            have hD : va_D V (mL AB cI cZ (va_up sc 0 0) (va_up (va_up (va_up (va_up (va_up ar 5 (upd (ar 5) a (nI (ef a + 1)))) 6 (upd (ar 6) (4 * a + ef a) f)) 7 (upd (ar 7) (4 * a + ef a) (b2i mk1))) 8 (upd (ar 8) (4 * a + ef a) mm)) 9 (upd (ar 9) (4 * a + ef a) vv))) := hD
            refine lv_aload_n hx hb dX4_effect_133 rfl (lv_at hl 1 rfl) ?_
            refine va_get (D := (dC, dI)) (ci := 4) (v := .ref (AB 5)) (C := RX4) (T := TX4) (N := 33) hx hb hts hinX4 hown hK hP 0 rfl rfl 5 (by decide) (hts _ (List.mem_of_getElem? (i := 3) rfl)) (fun _ h9 => h9) rfl dX4_effect_134 ?_
            refine lv_iload_n hx hb dX4_effect_137 rfl (lv_at hl 2 rfl) ?_
            refine va_iald hx hb hK hP 5 0 rfl rfl (vp_in_nI (show a < 8 by omega) (by decide)) dX4_effect_138 ?_
            rw [nI_clamp (show a < 2 ^ 31 by have := (show a < 8 by omega); omega)]
            refine lv_topi (fun y12 ey12 => ?_)
            obtain rfl : y12 = nI (ef a + 1) := ey12.trans (upd_eq)
            exact W.iret hx hb hr (fun t ht hW => ⟨⟨_, (va_up sc 0 0, va_up (va_up (va_up (va_up (va_up ar 5 (upd (ar 5) a (nI (ef a + 1)))) 6 (upd (ar 6) (4 * a + ef a) f)) 7 (upd (ar 7) (4 * a + ef a) (b2i mk1))) 8 (upd (ar 8) (4 * a + ef a) mm)) 9 (upd (ar 9) (4 * a + ef a) vv)), rfl, ⟨rfl, rfl⟩, by rw [ht]; exact hP, hD⟩, hS.F ht⟩) hS.2.2 dX4_effect_139
          · exact absurd (nI_inj (a := ef a) (b := 4) (by omega) (by decide) c68_6) (by omega)
        · exact absurd ((b2i_0.mp c52_4).symm.trans h3) (by decide)
    · exact absurd ((b2i_0.mp c27_2).symm.trans h1) (by decide)
  · exact absurd ((b2i_0.mp c12_0).symm.trans (wi_nat (n := 7) (k := a) (by omega) (by decide))) (by decide)
set_option maxHeartbeats 4000000 in
set_option maxRecDepth 100000 in
/-- clause 1 -/
theorem m_clause1 (l : Launch) (dC : Nat → ClassId) (dI : Nat → Nat → Nat) (AB : Nat → Nat) (cI cZ : ClassId) (τ : MS) (sz : Nat) (mm vv : Int32) (h : dmB mm vv = false) : Met l yX4_clause wsX4_clause ({ frames := 12, cells := 0, slots := 0, locals := 600 }) (va_Pc [.ref (AB 0), .int mm, .int vv] (mF dC dI AB cI cZ sz τ)) (va_Qi (fun (r : Int32) (τ2 : MS) => r = 0 ∧ τ2 = (va_up τ.1 0 1, τ.2)) (mB dC dI AB cI cZ (va_A (mW AB cI cZ τ) sz)) (va_A (mW AB cI cZ τ) sz)) 0 0 (va_A (mW AB cI cZ τ) sz) := by
  obtain ⟨sc, ar⟩ := τ
  refine Met.ofW (cc := cX4_clause) (maxL := 3) (ret := (some .int)) (by decide) rfl ?_
  intro p e s m args below meth c s₁ B hml hv
  obtain ⟨rfl, hsz, hP, hK, hD0⟩ := hv
  have hx := B.exec
  have hb := B.bytes
  have hr := B.returns
  have hts := atoms_spec (ws := wsX4_clause) B.pre
  have hown : s.vm.findClass RX4 = some m.cls := findClass_of_methodNamed B.named
  have hlocks := B.notSynchronized
  have hinX4 : ∀ w ∈ wsX40, w ∈ wsX4_clause := fun _ h => List.mem_cons_of_mem _ (List.mem_append_right _ h)
  subst hsz
  have hD := hD0.self (sz := s.heap.size)
  generalize hAe : va_A (mW AB cI cZ _) s.heap.size = V at hD ⊢
  have hA : ∀ q : Nat, s.heap.size ≤ q → V q := fun q h => by rw [← hAe]; exact Or.inr h
  have hS : va_S V s.heap s.heap [] := va_S.rf
  have hl := lv_entry ([.ref (AB 0), .int mm, .int vv]) (n := 3) (Nat.le_of_ble_eq_true rfl)
  rw [lg_entry_eq]
  generalize (lg_sl ([.ref (AB 0), .int mm, .int vv]) ++ List.replicate (3 - (lg_sl ([.ref (AB 0), .int mm, .int vv])).length) Slot.unset).toArray = ls at hl ⊢
  have hl : lv_has ls 3 [(0, .ref (AB 0)), (1, .int mm), (2, .int vv)] := hl
  have hP : va_P (dC, dI) vwCl (mL AB cI cZ sc ar) s.heap := hP
  have hD : va_D V (mL AB cI cZ sc ar) := hD
  refine lv_aload_n hx hb dX4_clause_0 rfl (lv_at hl 0 rfl) ?_
  refine lv_iconst (v := 0) hx hb dX4_clause_1 (by decide) ?_
  refine va_put (D := (dC, dI)) (ci := 4) (v := .int 0) (ty := .int) (C := RX4) (T := TX4) (N := 33) hx hb hts hinX4 tyX4 tyX4_ok nmX4 hown hK hP hD hS 0 rfl rfl 0 (by decide) (hts _ (List.mem_of_getElem? (i := 1) rfl)) (fun _ h9 => h9) rfl (by decide +kernel) rfl rfl (Nat.le_of_ble_eq_true rfl) dX4_clause_2 (fun H locs hP hD hS => ?_)
  have hP : va_P (dC, dI) vwCl (mL AB cI cZ (va_up sc 0 0) ar) H := hP
  have hD : va_D V (mL AB cI cZ (va_up sc 0 0) ar) := hD
  refine lv_iload_n hx hb dX4_clause_5 rfl (lv_at hl 1 rfl) ?_
  refine lv_iload_n hx hb dX4_clause_6 rfl (lv_at hl 2 rfl) ?_
  refine vp_callSi (W.runS (As := [.int mm, .int vv]) (rest := []) ⟨hx, hb, hml, hown, hts⟩ (m_demand l mm vv) (va_cwS 2 hts gX4_clause_X4_demand rfl rfl rfl (by decide +kernel) ⟨Nat.le_of_ble_eq_true rfl, Nat.le_of_ble_eq_true rfl⟩) ⟨bl_T, fun U hU hW => ⟨rfl, trivial⟩⟩ rfl rfl hl.1 rfl (lv_room (Nat.le_of_ble_eq_true rfl)) dX4_clause_7 ⟨Nat.zero_le _, Nat.zero_le _⟩) (fun r er => ?_)
  obtain rfl : r = b2i (dmB mm vv) := er
  refine lv_if_ne (tgt := 19) hx hb dX4_clause_10 (by decide) (fun c10_0 => ?_) (fun c10_0 => ?_)
  · exact absurd ((b2i_n0.mp c10_0).symm.trans h) (by decide)
  · skip
    refine lv_aload_n hx hb dX4_clause_13 rfl (lv_at hl 0 rfl) ?_
    refine lv_iconst (v := 1) hx hb dX4_clause_14 (by decide) ?_
    have hFc := m_free (τ := (va_up sc 0 0, ar)) hD hS hA
    refine va_calli (va_runV (As := [.int 1]) (rest := []) ⟨hx, hb, hml, hown, hts⟩ (m_fail l dC dI AB cI cZ (va_up sc 0 0, ar) H.size 1) (cwV 1 hts gX4_clause_X4_fail rfl rfl rfl (by decide +kernel) ⟨Nat.le_of_ble_eq_true rfl, Nat.le_of_ble_eq_true rfl⟩) ⟨bm_F, va_recv hK hP (ci := 4) (q0 := 0) rfl rfl, fun U hU hW => ⟨rfl, by rw [hU], by rw [hU]; exact hP, va_K.moved hW.alike hK, hf_any hD⟩⟩ rfl rfl hl.1 rfl (lv_room (Nat.le_of_ble_eq_true rfl)) dX4_clause_15 ⟨Nat.zero_le _, Nat.zero_le _⟩) hS (fun q _ h => hFc q h) hFc (fun r u t H locs ht hvm hw hB hz1 hk1 hS => ?_)
    obtain ⟨hP1, hD1⟩ := hB
    rw [ht] at hP1
    obtain ⟨rfl, rfl⟩ := hw
    have hP : va_P (dC, dI) vwCl (mL AB cI cZ (va_up sc 0 1) ar) H := hP1
    have hD : va_D V (mL AB cI cZ (va_up sc 0 1) ar) := hf_weak hD1 hFc
    clear hP1 hD1 hFc
    exact W.iret hx hb hr (fun t ht hW => ⟨⟨_, (va_up sc 0 1, ar), rfl, ⟨rfl, rfl⟩, by rw [ht]; exact hP, hD⟩, hS.F ht⟩) hS.2.2 dX4_clause_18
set_option maxHeartbeats 4000000 in
set_option maxRecDepth 100000 in
/-- clause 2 -/
theorem m_clause2 (l : Launch) (dC : Nat → ClassId) (dI : Nat → Nat → Nat) (AB : Nat → Nat) (cI cZ : ClassId) (τ : MS) (sz : Nat) (mm vv : Int32) (h1 : dmB mm vv = true) (h : τ.1 10 = 6) : Met l yX4_clause wsX4_clause ({ frames := 12, cells := 0, slots := 0, locals := 600 }) (va_Pc [.ref (AB 0), .int mm, .int vv] (mF dC dI AB cI cZ sz τ)) (va_Qi (fun (r : Int32) (τ2 : MS) => r = 0 ∧ τ2 = (va_up τ.1 0 2, τ.2)) (mB dC dI AB cI cZ (va_A (mW AB cI cZ τ) sz)) (va_A (mW AB cI cZ τ) sz)) 0 0 (va_A (mW AB cI cZ τ) sz) := by
  obtain ⟨sc, ar⟩ := τ
  refine Met.ofW (cc := cX4_clause) (maxL := 3) (ret := (some .int)) (by decide) rfl ?_
  intro p e s m args below meth c s₁ B hml hv
  obtain ⟨rfl, hsz, hP, hK, hD0⟩ := hv
  have hx := B.exec
  have hb := B.bytes
  have hr := B.returns
  have hts := atoms_spec (ws := wsX4_clause) B.pre
  have hown : s.vm.findClass RX4 = some m.cls := findClass_of_methodNamed B.named
  have hlocks := B.notSynchronized
  have hinX4 : ∀ w ∈ wsX40, w ∈ wsX4_clause := fun _ h => List.mem_cons_of_mem _ (List.mem_append_right _ h)
  subst hsz
  have hD := hD0.self (sz := s.heap.size)
  generalize hAe : va_A (mW AB cI cZ _) s.heap.size = V at hD ⊢
  have hA : ∀ q : Nat, s.heap.size ≤ q → V q := fun q h => by rw [← hAe]; exact Or.inr h
  have hS : va_S V s.heap s.heap [] := va_S.rf
  have hl := lv_entry ([.ref (AB 0), .int mm, .int vv]) (n := 3) (Nat.le_of_ble_eq_true rfl)
  rw [lg_entry_eq]
  generalize (lg_sl ([.ref (AB 0), .int mm, .int vv]) ++ List.replicate (3 - (lg_sl ([.ref (AB 0), .int mm, .int vv])).length) Slot.unset).toArray = ls at hl ⊢
  have hl : lv_has ls 3 [(0, .ref (AB 0)), (1, .int mm), (2, .int vv)] := hl
  have hP : va_P (dC, dI) vwCl (mL AB cI cZ sc ar) s.heap := hP
  have hD : va_D V (mL AB cI cZ sc ar) := hD
  refine lv_aload_n hx hb dX4_clause_0 rfl (lv_at hl 0 rfl) ?_
  refine lv_iconst (v := 0) hx hb dX4_clause_1 (by decide) ?_
  refine va_put (D := (dC, dI)) (ci := 4) (v := .int 0) (ty := .int) (C := RX4) (T := TX4) (N := 33) hx hb hts hinX4 tyX4 tyX4_ok nmX4 hown hK hP hD hS 0 rfl rfl 0 (by decide) (hts _ (List.mem_of_getElem? (i := 1) rfl)) (fun _ h9 => h9) rfl (by decide +kernel) rfl rfl (Nat.le_of_ble_eq_true rfl) dX4_clause_2 (fun H locs hP hD hS => ?_)
  have hP : va_P (dC, dI) vwCl (mL AB cI cZ (va_up sc 0 0) ar) H := hP
  have hD : va_D V (mL AB cI cZ (va_up sc 0 0) ar) := hD
  refine lv_iload_n hx hb dX4_clause_5 rfl (lv_at hl 1 rfl) ?_
  refine lv_iload_n hx hb dX4_clause_6 rfl (lv_at hl 2 rfl) ?_
  refine vp_callSi (W.runS (As := [.int mm, .int vv]) (rest := []) ⟨hx, hb, hml, hown, hts⟩ (m_demand l mm vv) (va_cwS 2 hts gX4_clause_X4_demand rfl rfl rfl (by decide +kernel) ⟨Nat.le_of_ble_eq_true rfl, Nat.le_of_ble_eq_true rfl⟩) ⟨bl_T, fun U hU hW => ⟨rfl, trivial⟩⟩ rfl rfl hl.1 rfl (lv_room (Nat.le_of_ble_eq_true rfl)) dX4_clause_7 ⟨Nat.zero_le _, Nat.zero_le _⟩) (fun r er => ?_)
  obtain rfl : r = b2i (dmB mm vv) := er
  refine lv_if_ne (tgt := 19) hx hb dX4_clause_10 (by decide) (fun c10_0 => ?_) (fun c10_0 => ?_)
  · skip
    refine lv_aload_n hx hb dX4_clause_19 rfl (lv_at hl 0 rfl) ?_
    refine va_get (D := (dC, dI)) (ci := 4) (v := .int (sc 10)) (C := RX4) (T := TX4) (N := 33) hx hb hts hinX4 hown hK hP 0 rfl rfl 10 (by decide) (hts _ (List.mem_of_getElem? (i := 2) rfl)) (fun _ h9 => h9) rfl dX4_clause_20 ?_
    refine lv_bipush (v := 6) hx hb dX4_clause_23 (by decide) ?_
    refine lv_icmp_ne (tgt := 34) hx hb dX4_clause_25 (by decide) (fun c25_1 => ?_) (fun c25_1 => ?_)
    · exact absurd h c25_1
    · skip
      refine lv_aload_n hx hb dX4_clause_28 rfl (lv_at hl 0 rfl) ?_
      refine lv_iconst (v := 2) hx hb dX4_clause_29 (by decide) ?_
      have hFc := m_free (τ := (va_up sc 0 0, ar)) hD hS hA
      refine va_calli (va_runV (As := [.int 2]) (rest := []) ⟨hx, hb, hml, hown, hts⟩ (m_fail l dC dI AB cI cZ (va_up sc 0 0, ar) H.size 2) (cwV 1 hts gX4_clause_X4_fail rfl rfl rfl (by decide +kernel) ⟨Nat.le_of_ble_eq_true rfl, Nat.le_of_ble_eq_true rfl⟩) ⟨bm_F, va_recv hK hP (ci := 4) (q0 := 0) rfl rfl, fun U hU hW => ⟨rfl, by rw [hU], by rw [hU]; exact hP, va_K.moved hW.alike hK, hf_any hD⟩⟩ rfl rfl hl.1 rfl (lv_room (Nat.le_of_ble_eq_true rfl)) dX4_clause_30 ⟨Nat.zero_le _, Nat.zero_le _⟩) hS (fun q _ h => hFc q h) hFc (fun r u t H locs ht hvm hw hB hz1 hk1 hS => ?_)
      obtain ⟨hP1, hD1⟩ := hB
      rw [ht] at hP1
      obtain ⟨rfl, rfl⟩ := hw
      have hP : va_P (dC, dI) vwCl (mL AB cI cZ (va_up sc 0 2) ar) H := hP1
      have hD : va_D V (mL AB cI cZ (va_up sc 0 2) ar) := hf_weak hD1 hFc
      clear hP1 hD1 hFc
      exact W.iret hx hb hr (fun t ht hW => ⟨⟨_, (va_up sc 0 2, ar), rfl, ⟨rfl, rfl⟩, by rw [ht]; exact hP, hD⟩, hS.F ht⟩) hS.2.2 dX4_clause_33
  · exact absurd ((b2i_0.mp c10_0).symm.trans h1) (by decide)
set_option maxHeartbeats 4000000 in
set_option maxRecDepth 100000 in
/-- clause 0 -/
theorem m_clause0 (l : Launch) (dC : Nat → ClassId) (dI : Nat → Nat → Nat) (AB : Nat → Nat) (cI cZ : ClassId) (τ : MS) (sz : Nat) (mm vv : Int32) (h1 : dmB mm vv = true) {C : Nat} (hC : τ.1 10 = nI C) (h : C < 6) : Met l yX4_clause wsX4_clause ({ frames := 12, cells := 0, slots := 0, locals := 600 }) (va_Pc [.ref (AB 0), .int mm, .int vv] (mF dC dI AB cI cZ sz τ)) (va_Qi (fun (r : Int32) (τ2 : MS) => r = nI (C + 1) ∧ τ2 = (va_up (va_up τ.1 0 0) 10 (nI (C + 1)), va_up (va_up τ.2 11 (upd (τ.2 11) C mm)) 12 (upd (τ.2 12) C vv))) (mB dC dI AB cI cZ (va_A (mW AB cI cZ τ) sz)) (va_A (mW AB cI cZ τ) sz)) 0 0 (va_A (mW AB cI cZ τ) sz) := by
  obtain ⟨sc, ar⟩ := τ
  refine Met.ofW (cc := cX4_clause) (maxL := 3) (ret := (some .int)) (by decide) rfl ?_
  intro p e s m args below meth c s₁ B hml hv
  obtain ⟨rfl, hsz, hP, hK, hD0⟩ := hv
  have hx := B.exec
  have hb := B.bytes
  have hr := B.returns
  have hts := atoms_spec (ws := wsX4_clause) B.pre
  have hown : s.vm.findClass RX4 = some m.cls := findClass_of_methodNamed B.named
  have hlocks := B.notSynchronized
  have hinX4 : ∀ w ∈ wsX40, w ∈ wsX4_clause := fun _ h => List.mem_cons_of_mem _ (List.mem_append_right _ h)
  subst hsz
  have hD := hD0.self (sz := s.heap.size)
  generalize hAe : va_A (mW AB cI cZ _) s.heap.size = V at hD ⊢
  have hA : ∀ q : Nat, s.heap.size ≤ q → V q := fun q h => by rw [← hAe]; exact Or.inr h
  have hS : va_S V s.heap s.heap [] := va_S.rf
  have hl := lv_entry ([.ref (AB 0), .int mm, .int vv]) (n := 3) (Nat.le_of_ble_eq_true rfl)
  rw [lg_entry_eq]
  generalize (lg_sl ([.ref (AB 0), .int mm, .int vv]) ++ List.replicate (3 - (lg_sl ([.ref (AB 0), .int mm, .int vv])).length) Slot.unset).toArray = ls at hl ⊢
  have hl : lv_has ls 3 [(0, .ref (AB 0)), (1, .int mm), (2, .int vv)] := hl
  have hP : va_P (dC, dI) vwCl (mL AB cI cZ sc ar) s.heap := hP
  have hD : va_D V (mL AB cI cZ sc ar) := hD
  refine lv_aload_n hx hb dX4_clause_0 rfl (lv_at hl 0 rfl) ?_
  refine lv_iconst (v := 0) hx hb dX4_clause_1 (by decide) ?_
  refine va_put (D := (dC, dI)) (ci := 4) (v := .int 0) (ty := .int) (C := RX4) (T := TX4) (N := 33) hx hb hts hinX4 tyX4 tyX4_ok nmX4 hown hK hP hD hS 0 rfl rfl 0 (by decide) (hts _ (List.mem_of_getElem? (i := 1) rfl)) (fun _ h9 => h9) rfl (by decide +kernel) rfl rfl (Nat.le_of_ble_eq_true rfl) dX4_clause_2 (fun H locs hP hD hS => ?_)
  have hP : va_P (dC, dI) vwCl (mL AB cI cZ (va_up sc 0 0) ar) H := hP
  have hD : va_D V (mL AB cI cZ (va_up sc 0 0) ar) := hD
  refine lv_iload_n hx hb dX4_clause_5 rfl (lv_at hl 1 rfl) ?_
  refine lv_iload_n hx hb dX4_clause_6 rfl (lv_at hl 2 rfl) ?_
  refine vp_callSi (W.runS (As := [.int mm, .int vv]) (rest := []) ⟨hx, hb, hml, hown, hts⟩ (m_demand l mm vv) (va_cwS 2 hts gX4_clause_X4_demand rfl rfl rfl (by decide +kernel) ⟨Nat.le_of_ble_eq_true rfl, Nat.le_of_ble_eq_true rfl⟩) ⟨bl_T, fun U hU hW => ⟨rfl, trivial⟩⟩ rfl rfl hl.1 rfl (lv_room (Nat.le_of_ble_eq_true rfl)) dX4_clause_7 ⟨Nat.zero_le _, Nat.zero_le _⟩) (fun r er => ?_)
  obtain rfl : r = b2i (dmB mm vv) := er
  refine lv_if_ne (tgt := 19) hx hb dX4_clause_10 (by decide) (fun c10_0 => ?_) (fun c10_0 => ?_)
  · skip
    refine lv_aload_n hx hb dX4_clause_19 rfl (lv_at hl 0 rfl) ?_
    refine va_get (D := (dC, dI)) (ci := 4) (v := .int (sc 10)) (C := RX4) (T := TX4) (N := 33) hx hb hts hinX4 hown hK hP 0 rfl rfl 10 (by decide) (hts _ (List.mem_of_getElem? (i := 2) rfl)) (fun _ h9 => h9) rfl dX4_clause_20 ?_
    refine lv_bipush (v := 6) hx hb dX4_clause_23 (by decide) ?_
    refine lv_icmp_ne (tgt := 34) hx hb dX4_clause_25 (by decide) (fun c25_1 => ?_) (fun c25_1 => ?_)
    · skip
      refine lv_aload_n hx hb dX4_clause_34 rfl (lv_at hl 0 rfl) ?_
      refine va_get (D := (dC, dI)) (ci := 4) (v := .ref (AB 11)) (C := RX4) (T := TX4) (N := 33) hx hb hts hinX4 hown hK hP 0 rfl rfl 11 (by decide) (hts _ (List.mem_of_getElem? (i := 3) rfl)) (fun _ h9 => h9) rfl dX4_clause_35 ?_
      refine lv_aload_n hx hb dX4_clause_38 rfl (lv_at hl 0 rfl) ?_
      refine va_get (D := (dC, dI)) (ci := 4) (v := .int (sc 10)) (C := RX4) (T := TX4) (N := 33) hx hb hts hinX4 hown hK hP 0 rfl rfl 10 (by decide) (hts _ (List.mem_of_getElem? (i := 2) rfl)) (fun _ h9 => h9) rfl dX4_clause_39 ?_
      refine lv_topi (fun y2 ey2 => ?_)
      obtain rfl : y2 = nI C := ey2.trans (hC)
      refine lv_iload_n hx hb dX4_clause_42 rfl (lv_at hl 1 rfl) ?_
      refine va_iast hx hb hK hP hD hS 10 0 rfl rfl (vp_in_nI (show C < 6 by omega) (by decide)) dX4_clause_43 (fun H locs hP hD hS => ?_)
      rw [nI_clamp (show C < 2 ^ 31 by have := (show C < 6 by omega); omega)] at hP hD
      have hP : va_P (dC, dI) vwCl (mL AB cI cZ (va_up sc 0 0) (va_up ar 11 (upd (ar 11) C mm))) H := hP
      have hD : va_D V (mL AB cI cZ (va_up sc 0 0) (va_up ar 11 (upd (ar 11) C mm))) := hD
      refine lv_aload_n hx hb dX4_clause_44 rfl (lv_at hl 0 rfl) ?_
      refine va_get (D := (dC, dI)) (ci := 4) (v := .ref (AB 12)) (C := RX4) (T := TX4) (N := 33) hx hb hts hinX4 hown hK hP 0 rfl rfl 12 (by decide) (hts _ (List.mem_of_getElem? (i := 4) rfl)) (fun _ h9 => h9) rfl dX4_clause_45 ?_
      refine lv_aload_n hx hb dX4_clause_48 rfl (lv_at hl 0 rfl) ?_
      refine va_get (D := (dC, dI)) (ci := 4) (v := .int (sc 10)) (C := RX4) (T := TX4) (N := 33) hx hb hts hinX4 hown hK hP 0 rfl rfl 10 (by decide) (hts _ (List.mem_of_getElem? (i := 2) rfl)) (fun _ h9 => h9) rfl dX4_clause_49 ?_
      refine lv_topi (fun y3 ey3 => ?_)
      obtain rfl : y3 = nI C := ey3.trans (hC)
      refine lv_iload_n hx hb dX4_clause_52 rfl (lv_at hl 2 rfl) ?_
      refine va_iast hx hb hK hP hD hS 11 0 rfl rfl (vp_in_nI (show C < 6 by omega) (by decide)) dX4_clause_53 (fun H locs hP hD hS => ?_)
      rw [nI_clamp (show C < 2 ^ 31 by have := (show C < 6 by omega); omega)] at hP hD
      have hP : va_P (dC, dI) vwCl (mL AB cI cZ (va_up sc 0 0) (va_up (va_up ar 11 (upd (ar 11) C mm)) 12 (upd (ar 12) C vv))) H := hP
      have hD : va_D V (mL AB cI cZ (va_up sc 0 0) (va_up (va_up ar 11 (upd (ar 11) C mm)) 12 (upd (ar 12) C vv))) := hD
      refine lv_aload_n hx hb dX4_clause_54 rfl (lv_at hl 0 rfl) ?_
      refine lv_dup hx hb dX4_clause_55 rfl ?_
      refine va_get (D := (dC, dI)) (ci := 4) (v := .int (sc 10)) (C := RX4) (T := TX4) (N := 33) hx hb hts hinX4 hown hK hP 0 rfl rfl 10 (by decide) (hts _ (List.mem_of_getElem? (i := 2) rfl)) (fun _ h9 => h9) rfl dX4_clause_56 ?_
      refine lv_topi (fun y4 ey4 => ?_)
      obtain rfl : y4 = nI C := ey4.trans (hC)
      refine lv_iconst (v := 1) hx hb dX4_clause_59 (by decide) ?_
      refine lv_iadd hx hb dX4_clause_60 ?_
      refine lv_topi (fun y5 ey5 => ?_)
      obtain rfl : y5 = nI (C + 1) := ey5.trans (nI_1 C)
      refine va_put (D := (dC, dI)) (ci := 4) (v := .int (nI (C + 1))) (ty := .int) (C := RX4) (T := TX4) (N := 33) hx hb hts hinX4 tyX4 tyX4_ok nmX4 hown hK hP hD hS 0 rfl rfl 10 (by decide) (hts _ (List.mem_of_getElem? (i := 2) rfl)) (fun _ h9 => h9) rfl (by decide +kernel) rfl rfl (Nat.le_of_ble_eq_true rfl) dX4_clause_61 (fun H locs hP hD hS => ?_)
      have hP : va_P (dC, dI) vwCl (mL AB cI cZ (va_up (va_up sc 0 0) 10 (nI (C + 1))) (va_up (va_up ar 11 (upd (ar 11) C mm)) 12 (upd (ar 12) C vv))) H := hP
      have hD : va_D V (mL AB cI cZ (va_up (va_up sc 0 0) 10 (nI (C + 1))) (va_up (va_up ar 11 (upd (ar 11) C mm)) 12 (upd (ar 12) C vv))) := hD
      refine lv_aload_n hx hb dX4_clause_64 rfl (lv_at hl 0 rfl) ?_
      refine va_get (D := (dC, dI)) (ci := 4) (v := .int (nI (C + 1))) (C := RX4) (T := TX4) (N := 33) hx hb hts hinX4 hown hK hP 0 rfl rfl 10 (by decide) (hts _ (List.mem_of_getElem? (i := 2) rfl)) (fun _ h9 => h9) rfl dX4_clause_65 ?_
      exact W.iret hx hb hr (fun t ht hW => ⟨⟨_, (va_up (va_up sc 0 0) 10 (nI (C + 1)), va_up (va_up ar 11 (upd (ar 11) C mm)) 12 (upd (ar 12) C vv)), rfl, ⟨rfl, rfl⟩, by rw [ht]; exact hP, hD⟩, hS.F ht⟩) hS.2.2 dX4_clause_68
    · exact absurd (nI_inj (a := C) (b := 6) (by omega) (by decide) (hC.symm.trans c25_1)) (by omega)
  · exact absurd ((b2i_0.mp c10_0).symm.trans h1) (by decide)
set_option maxHeartbeats 4000000 in
set_option maxRecDepth 100000 in
/-- goal 0 -/
theorem m_goal0 (l : Launch) (dC : Nat → ClassId) (dI : Nat → Nat → Nat) (AB : Nat → Nat) (cI cZ : ClassId) (τ : MS) (sz : Nat) (mm vv : Int32) (h1 : dmB mm vv = true) : Met l yX4_goal wsX4_goal ({ frames := 12, cells := 0, slots := 0, locals := 600 }) (va_Pc [.ref (AB 0), .int mm, .int vv] (mF dC dI AB cI cZ sz τ)) (va_Qi (fun (r : Int32) (τ2 : MS) => r = nI (cnB (demF mm vv) 16) ∧ τ2 = (va_up (va_up (va_up τ.1 0 0) 13 mm) 14 vv, τ.2)) (mB dC dI AB cI cZ (va_A (mW AB cI cZ τ) sz)) (va_A (mW AB cI cZ τ) sz)) 0 0 (va_A (mW AB cI cZ τ) sz) := by
  obtain ⟨sc, ar⟩ := τ
  refine Met.ofW (cc := cX4_goal) (maxL := 5) (ret := (some .int)) (by decide) rfl ?_
  intro p e s m args below meth c s₁ B hml hv
  obtain ⟨rfl, hsz, hP, hK, hD0⟩ := hv
  have hx := B.exec
  have hb := B.bytes
  have hr := B.returns
  have hts := atoms_spec (ws := wsX4_goal) B.pre
  have hown : s.vm.findClass RX4 = some m.cls := findClass_of_methodNamed B.named
  have hlocks := B.notSynchronized
  have hinX4 : ∀ w ∈ wsX40, w ∈ wsX4_goal := fun _ h => List.mem_cons_of_mem _ (List.mem_append_right _ h)
  subst hsz
  have hD := hD0.self (sz := s.heap.size)
  generalize hAe : va_A (mW AB cI cZ _) s.heap.size = V at hD ⊢
  have hA : ∀ q : Nat, s.heap.size ≤ q → V q := fun q h => by rw [← hAe]; exact Or.inr h
  have hS : va_S V s.heap s.heap [] := va_S.rf
  have hl := lv_entry ([.ref (AB 0), .int mm, .int vv]) (n := 5) (Nat.le_of_ble_eq_true rfl)
  rw [lg_entry_eq]
  generalize (lg_sl ([.ref (AB 0), .int mm, .int vv]) ++ List.replicate (5 - (lg_sl ([.ref (AB 0), .int mm, .int vv])).length) Slot.unset).toArray = ls at hl ⊢
  have hl : lv_has ls 5 [(0, .ref (AB 0)), (1, .int mm), (2, .int vv)] := hl
  have hP : va_P (dC, dI) vwCl (mL AB cI cZ sc ar) s.heap := hP
  have hD : va_D V (mL AB cI cZ sc ar) := hD
  refine lv_aload_n hx hb dX4_goal_0 rfl (lv_at hl 0 rfl) ?_
  refine lv_iconst (v := 0) hx hb dX4_goal_1 (by decide) ?_
  refine va_put (D := (dC, dI)) (ci := 4) (v := .int 0) (ty := .int) (C := RX4) (T := TX4) (N := 33) hx hb hts hinX4 tyX4 tyX4_ok nmX4 hown hK hP hD hS 0 rfl rfl 0 (by decide) (hts _ (List.mem_of_getElem? (i := 1) rfl)) (fun _ h9 => h9) rfl (by decide +kernel) rfl rfl (Nat.le_of_ble_eq_true rfl) dX4_goal_2 (fun H locs hP hD hS => ?_)
  have hP : va_P (dC, dI) vwCl (mL AB cI cZ (va_up sc 0 0) ar) H := hP
  have hD : va_D V (mL AB cI cZ (va_up sc 0 0) ar) := hD
  refine lv_iload_n hx hb dX4_goal_5 rfl (lv_at hl 1 rfl) ?_
  refine lv_iload_n hx hb dX4_goal_6 rfl (lv_at hl 2 rfl) ?_
  refine vp_callSi (W.runS (As := [.int mm, .int vv]) (rest := []) ⟨hx, hb, hml, hown, hts⟩ (m_demand l mm vv) (va_cwS 2 hts gX4_goal_X4_demand rfl rfl rfl (by decide +kernel) ⟨Nat.le_of_ble_eq_true rfl, Nat.le_of_ble_eq_true rfl⟩) ⟨bl_T, fun U hU hW => ⟨rfl, trivial⟩⟩ rfl rfl hl.1 rfl (lv_room (Nat.le_of_ble_eq_true rfl)) dX4_goal_7 ⟨Nat.zero_le _, Nat.zero_le _⟩) (fun r er => ?_)
  obtain rfl : r = b2i (dmB mm vv) := er
  refine lv_if_ne (tgt := 19) hx hb dX4_goal_10 (by decide) (fun c10_0 => ?_) (fun c10_0 => ?_)
  · skip
    refine lv_aload_n hx hb dX4_goal_19 rfl (lv_at hl 0 rfl) ?_
    refine lv_iload_n hx hb dX4_goal_20 rfl (lv_at hl 1 rfl) ?_
    refine va_put (D := (dC, dI)) (ci := 4) (v := .int mm) (ty := .int) (C := RX4) (T := TX4) (N := 33) hx hb hts hinX4 tyX4 tyX4_ok nmX4 hown hK hP hD hS 0 rfl rfl 13 (by decide) (hts _ (List.mem_of_getElem? (i := 2) rfl)) (fun _ h9 => h9) rfl (by decide +kernel) rfl rfl (Nat.le_of_ble_eq_true rfl) dX4_goal_21 (fun H locs hP hD hS => ?_)
    have hP : va_P (dC, dI) vwCl (mL AB cI cZ (va_up (va_up sc 0 0) 13 mm) ar) H := hP
    have hD : va_D V (mL AB cI cZ (va_up (va_up sc 0 0) 13 mm) ar) := hD
    refine lv_aload_n hx hb dX4_goal_24 rfl (lv_at hl 0 rfl) ?_
    refine lv_iload_n hx hb dX4_goal_25 rfl (lv_at hl 2 rfl) ?_
    refine va_put (D := (dC, dI)) (ci := 4) (v := .int vv) (ty := .int) (C := RX4) (T := TX4) (N := 33) hx hb hts hinX4 tyX4 tyX4_ok nmX4 hown hK hP hD hS 0 rfl rfl 14 (by decide) (hts _ (List.mem_of_getElem? (i := 3) rfl)) (fun _ h9 => h9) rfl (by decide +kernel) rfl rfl (Nat.le_of_ble_eq_true rfl) dX4_goal_26 (fun H locs hP hD hS => ?_)
    have hP : va_P (dC, dI) vwCl (mL AB cI cZ (va_up (va_up (va_up sc 0 0) 13 mm) 14 vv) ar) H := hP
    have hD : va_D V (mL AB cI cZ (va_up (va_up (va_up sc 0 0) 13 mm) 14 vv) ar) := hD
    refine lv_iconst (v := 0) hx hb dX4_goal_29 (by decide) ?_
    refine lv_istore_n (lv' := [(3, .int 0), (0, .ref (AB 0)), (1, .int mm), (2, .int vv)]) hx hb dX4_goal_30 rfl hl (by decide) rfl (fun ls hl => ?_)
    refine lv_iconst (v := 0) hx hb dX4_goal_31 (by decide) ?_
    refine lv_istore (lv' := [(4, .int 0), (3, .int 0), (0, .ref (AB 0)), (1, .int mm), (2, .int vv)]) hx hb dX4_goal_32 hl (by decide) rfl (fun ls hl => ?_)
    refine w_loopP (pc := 34) 16 (fun k ls => lv_has ls 5 [(0, .ref (AB 0)), (1, .int mm), (2, .int vv), (3, .int (nI (cnB (demF mm vv) k))), (4, .int (nI k))]) ?_ 0 (Nat.zero_le _) ls (lv_sub hl [2, 3, 4, 1, 0] rfl)
    intro k ls hk hl ih
    refine lv_iload hx hb dX4_goal_34 (lv_at hl 4 rfl) ?_
    refine lv_bipush (v := 16) hx hb dX4_goal_36 (by decide) ?_
    refine lv_icmp_ge (tgt := 65) hx hb dX4_goal_38 (by decide) (fun c38_1 => ?_) (fun c38_1 => ?_)
    · skip
      obtain rfl := ctr_ge (N := 16) rfl (by decide) hk c38_1
      refine lv_iload_n hx hb dX4_goal_65 rfl (lv_at hl 3 rfl) ?_
      exact W.iret hx hb hr (fun t ht hW => ⟨⟨_, (va_up (va_up (va_up sc 0 0) 13 mm) 14 vv, ar), rfl, ⟨rfl, rfl⟩, by rw [ht]; exact hP, hD⟩, hS.F ht⟩) hS.2.2 dX4_goal_66
    · skip
      have hlt := ctr_lt (N := 16) rfl (by decide) hk c38_1
      refine lv_iload_n hx hb dX4_goal_41 rfl (lv_at hl 3 rfl) ?_
      refine lv_iload_n hx hb dX4_goal_42 rfl (lv_at hl 1 rfl) ?_
      refine lv_iload_n hx hb dX4_goal_43 rfl (lv_at hl 2 rfl) ?_
      refine lv_iload hx hb dX4_goal_44 (lv_at hl 4 rfl) ?_
      refine vp_callSi (W.runS (As := [.int mm, .int vv, .int (nI k)]) (rest := [.int (nI (cnB (demF mm vv) k))]) ⟨hx, hb, hml, hown, hts⟩ (m_holds l mm vv k) (va_cwS 3 hts gX4_goal_X4_holds rfl rfl rfl (by decide +kernel) ⟨Nat.le_of_ble_eq_true rfl, Nat.le_of_ble_eq_true rfl⟩) ⟨bl_T, fun U hU hW => ⟨rfl, trivial⟩⟩ rfl rfl hl.1 rfl (lv_room (Nat.le_of_ble_eq_true rfl)) dX4_goal_46 ⟨Nat.zero_le _, Nat.zero_le _⟩) (fun r er => ?_)
      obtain rfl : r = b2i (demF mm vv k) := er
      refine lv_if_eq (tgt := 56) hx hb dX4_goal_49 (by decide) (fun c49_2 => ?_) (fun c49_2 => ?_)
      · skip
        refine lv_iconst (v := 0) hx hb dX4_goal_56 (by decide) ?_
        refine lv_iadd hx hb dX4_goal_57 ?_
        refine lv_topi (fun y3 ey3 => ?_)
        obtain rfl : y3 = nI (cnB (demF mm vv) k + 0) := ey3.trans (nI_add (cnB (demF mm vv) k) 0)
        refine lv_istore_n (lv' := [(3, .int (nI (cnB (demF mm vv) k + 0))), (0, .ref (AB 0)), (1, .int mm), (2, .int vv), (4, .int (nI k))]) hx hb dX4_goal_58 rfl hl (by decide) rfl (fun ls hl => ?_)
        obtain ⟨y4, ey4⟩ : ∃ y : Int32, y = (nI k) + 1 := ⟨_, rfl⟩
        refine lv_iinc (v := y4) (lv' := [(4, .int y4), (3, .int (nI (cnB (demF mm vv) k + 0))), (0, .ref (AB 0)), (1, .int mm), (2, .int vv)]) hx hb dX4_goal_59 hl (k := 4) rfl (by rw [ey4]; rfl) (by decide) rfl (fun ls hl => ?_)
        obtain rfl : y4 = nI (k + 1) := ey4.trans (nI_1 k)
        refine lv_goto (tgt := 34) hx hb dX4_goal_62 (by decide) ?_
        exact ih ls (by rw [show cnB (demF mm vv) (k + 1) = cnB (demF mm vv) k from by rw [cnB.eq_2, if_neg (by rw [b2i_0.mp c49_2]; decide)]]; exact lv_sub hl [2, 3, 4, 1, 0] rfl) hlt
      · skip
        refine lv_iconst (v := 1) hx hb dX4_goal_52 (by decide) ?_
        refine lv_goto (tgt := 57) hx hb dX4_goal_53 (by decide) ?_
        refine lv_iadd hx hb dX4_goal_57 ?_
        refine lv_topi (fun y5 ey5 => ?_)
        obtain rfl : y5 = nI (cnB (demF mm vv) k + 1) := ey5.trans (nI_add (cnB (demF mm vv) k) 1)
        refine lv_istore_n (lv' := [(3, .int (nI (cnB (demF mm vv) k + 1))), (0, .ref (AB 0)), (1, .int mm), (2, .int vv), (4, .int (nI k))]) hx hb dX4_goal_58 rfl hl (by decide) rfl (fun ls hl => ?_)
        obtain ⟨y6, ey6⟩ : ∃ y : Int32, y = (nI k) + 1 := ⟨_, rfl⟩
        refine lv_iinc (v := y6) (lv' := [(4, .int y6), (3, .int (nI (cnB (demF mm vv) k + 1))), (0, .ref (AB 0)), (1, .int mm), (2, .int vv)]) hx hb dX4_goal_59 hl (k := 4) rfl (by rw [ey6]; rfl) (by decide) rfl (fun ls hl => ?_)
        obtain rfl : y6 = nI (k + 1) := ey6.trans (nI_1 k)
        refine lv_goto (tgt := 34) hx hb dX4_goal_62 (by decide) ?_
        exact ih ls (by rw [show cnB (demF mm vv) (k + 1) = cnB (demF mm vv) k + 1 from by rw [cnB.eq_2, if_pos (b2i_n0.mp c49_2)]]; exact lv_sub hl [2, 3, 4, 1, 0] rfl) hlt
  · exact absurd ((b2i_0.mp c10_0).symm.trans h1) (by decide)
set_option maxHeartbeats 4000000 in
set_option maxRecDepth 100000 in
/-- goal 1 -/
theorem m_goal1 (l : Launch) (dC : Nat → ClassId) (dI : Nat → Nat → Nat) (AB : Nat → Nat) (cI cZ : ClassId) (τ : MS) (sz : Nat) (mm vv : Int32) (h : dmB mm vv = false) : Met l yX4_goal wsX4_goal ({ frames := 12, cells := 0, slots := 0, locals := 600 }) (va_Pc [.ref (AB 0), .int mm, .int vv] (mF dC dI AB cI cZ sz τ)) (va_Qi (fun (r : Int32) (τ2 : MS) => r = 0 ∧ τ2 = (va_up τ.1 0 1, τ.2)) (mB dC dI AB cI cZ (va_A (mW AB cI cZ τ) sz)) (va_A (mW AB cI cZ τ) sz)) 0 0 (va_A (mW AB cI cZ τ) sz) := by
  obtain ⟨sc, ar⟩ := τ
  refine Met.ofW (cc := cX4_goal) (maxL := 5) (ret := (some .int)) (by decide) rfl ?_
  intro p e s m args below meth c s₁ B hml hv
  obtain ⟨rfl, hsz, hP, hK, hD0⟩ := hv
  have hx := B.exec
  have hb := B.bytes
  have hr := B.returns
  have hts := atoms_spec (ws := wsX4_goal) B.pre
  have hown : s.vm.findClass RX4 = some m.cls := findClass_of_methodNamed B.named
  have hlocks := B.notSynchronized
  have hinX4 : ∀ w ∈ wsX40, w ∈ wsX4_goal := fun _ h => List.mem_cons_of_mem _ (List.mem_append_right _ h)
  subst hsz
  have hD := hD0.self (sz := s.heap.size)
  generalize hAe : va_A (mW AB cI cZ _) s.heap.size = V at hD ⊢
  have hA : ∀ q : Nat, s.heap.size ≤ q → V q := fun q h => by rw [← hAe]; exact Or.inr h
  have hS : va_S V s.heap s.heap [] := va_S.rf
  have hl := lv_entry ([.ref (AB 0), .int mm, .int vv]) (n := 5) (Nat.le_of_ble_eq_true rfl)
  rw [lg_entry_eq]
  generalize (lg_sl ([.ref (AB 0), .int mm, .int vv]) ++ List.replicate (5 - (lg_sl ([.ref (AB 0), .int mm, .int vv])).length) Slot.unset).toArray = ls at hl ⊢
  have hl : lv_has ls 5 [(0, .ref (AB 0)), (1, .int mm), (2, .int vv)] := hl
  have hP : va_P (dC, dI) vwCl (mL AB cI cZ sc ar) s.heap := hP
  have hD : va_D V (mL AB cI cZ sc ar) := hD
  refine lv_aload_n hx hb dX4_goal_0 rfl (lv_at hl 0 rfl) ?_
  refine lv_iconst (v := 0) hx hb dX4_goal_1 (by decide) ?_
  refine va_put (D := (dC, dI)) (ci := 4) (v := .int 0) (ty := .int) (C := RX4) (T := TX4) (N := 33) hx hb hts hinX4 tyX4 tyX4_ok nmX4 hown hK hP hD hS 0 rfl rfl 0 (by decide) (hts _ (List.mem_of_getElem? (i := 1) rfl)) (fun _ h9 => h9) rfl (by decide +kernel) rfl rfl (Nat.le_of_ble_eq_true rfl) dX4_goal_2 (fun H locs hP hD hS => ?_)
  have hP : va_P (dC, dI) vwCl (mL AB cI cZ (va_up sc 0 0) ar) H := hP
  have hD : va_D V (mL AB cI cZ (va_up sc 0 0) ar) := hD
  refine lv_iload_n hx hb dX4_goal_5 rfl (lv_at hl 1 rfl) ?_
  refine lv_iload_n hx hb dX4_goal_6 rfl (lv_at hl 2 rfl) ?_
  refine vp_callSi (W.runS (As := [.int mm, .int vv]) (rest := []) ⟨hx, hb, hml, hown, hts⟩ (m_demand l mm vv) (va_cwS 2 hts gX4_goal_X4_demand rfl rfl rfl (by decide +kernel) ⟨Nat.le_of_ble_eq_true rfl, Nat.le_of_ble_eq_true rfl⟩) ⟨bl_T, fun U hU hW => ⟨rfl, trivial⟩⟩ rfl rfl hl.1 rfl (lv_room (Nat.le_of_ble_eq_true rfl)) dX4_goal_7 ⟨Nat.zero_le _, Nat.zero_le _⟩) (fun r er => ?_)
  obtain rfl : r = b2i (dmB mm vv) := er
  refine lv_if_ne (tgt := 19) hx hb dX4_goal_10 (by decide) (fun c10_0 => ?_) (fun c10_0 => ?_)
  · exact absurd ((b2i_n0.mp c10_0).symm.trans h) (by decide)
  · skip
    refine lv_aload_n hx hb dX4_goal_13 rfl (lv_at hl 0 rfl) ?_
    refine lv_iconst (v := 1) hx hb dX4_goal_14 (by decide) ?_
    have hFc := m_free (τ := (va_up sc 0 0, ar)) hD hS hA
    refine va_calli (va_runV (As := [.int 1]) (rest := []) ⟨hx, hb, hml, hown, hts⟩ (m_fail l dC dI AB cI cZ (va_up sc 0 0, ar) H.size 1) (cwV 1 hts gX4_goal_X4_fail rfl rfl rfl (by decide +kernel) ⟨Nat.le_of_ble_eq_true rfl, Nat.le_of_ble_eq_true rfl⟩) ⟨bm_F, va_recv hK hP (ci := 4) (q0 := 0) rfl rfl, fun U hU hW => ⟨rfl, by rw [hU], by rw [hU]; exact hP, va_K.moved hW.alike hK, hf_any hD⟩⟩ rfl rfl hl.1 rfl (lv_room (Nat.le_of_ble_eq_true rfl)) dX4_goal_15 ⟨Nat.zero_le _, Nat.zero_le _⟩) hS (fun q _ h => hFc q h) hFc (fun r u t H locs ht hvm hw hB hz1 hk1 hS => ?_)
    obtain ⟨hP1, hD1⟩ := hB
    rw [ht] at hP1
    obtain ⟨rfl, rfl⟩ := hw
    have hP : va_P (dC, dI) vwCl (mL AB cI cZ (va_up sc 0 1) ar) H := hP1
    have hD : va_D V (mL AB cI cZ (va_up sc 0 1) ar) := hf_weak hD1 hFc
    clear hP1 hD1 hFc
    exact W.iret hx hb hr (fun t ht hW => ⟨⟨_, (va_up sc 0 1, ar), rfl, ⟨rfl, rfl⟩, by rw [ht]; exact hP, hD⟩, hS.F ht⟩) hS.2.2 dX4_goal_18
set_option maxHeartbeats 4000000 in
set_option maxRecDepth 100000 in
/-- start  -/
theorem m_start (l : Launch) (dC : Nat → ClassId) (dI : Nat → Nat → Nat) (AB : Nat → Nat) (cI cZ : ClassId) (τ : MS) (sz : Nat) {C : Nat} (hC : τ.1 10 = nI C) (hC6 : C ≤ 6) : Met l yX4_start wsX4_start ({ frames := 12, cells := 0, slots := 0, locals := 600 }) (va_Pc [.ref (AB 0)] (mF dC dI AB cI cZ sz τ)) (va_Qi (fun (r : Int32) (τ2 : MS) => r = stR τ C ∧ τ2 = (va_up τ.1 0 0, τ.2)) (mB dC dI AB cI cZ (va_A (mW AB cI cZ τ) sz)) (va_A (mW AB cI cZ τ) sz)) 0 0 (va_A (mW AB cI cZ τ) sz) := by
  obtain ⟨sc, ar⟩ := τ
  refine Met.ofW (cc := cX4_start) (maxL := 1) (ret := (some .int)) (by decide) rfl ?_
  intro p e s m args below meth c s₁ B hml hv
  obtain ⟨rfl, hsz, hP, hK, hD0⟩ := hv
  have hx := B.exec
  have hb := B.bytes
  have hr := B.returns
  have hts := atoms_spec (ws := wsX4_start) B.pre
  have hown : s.vm.findClass RX4 = some m.cls := findClass_of_methodNamed B.named
  have hlocks := B.notSynchronized
  have hinX4 : ∀ w ∈ wsX40, w ∈ wsX4_start := fun _ h => List.mem_cons_of_mem _ (List.mem_append_right _ h)
  subst hsz
  have hD := hD0.self (sz := s.heap.size)
  generalize hAe : va_A (mW AB cI cZ _) s.heap.size = V at hD ⊢
  have hA : ∀ q : Nat, s.heap.size ≤ q → V q := fun q h => by rw [← hAe]; exact Or.inr h
  have hS : va_S V s.heap s.heap [] := va_S.rf
  have hl := lv_entry ([.ref (AB 0)]) (n := 1) (Nat.le_of_ble_eq_true rfl)
  rw [lg_entry_eq]
  generalize (lg_sl ([.ref (AB 0)]) ++ List.replicate (1 - (lg_sl ([.ref (AB 0)])).length) Slot.unset).toArray = ls at hl ⊢
  have hl : lv_has ls 1 [(0, .ref (AB 0))] := hl
  have hP : va_P (dC, dI) vwCl (mL AB cI cZ sc ar) s.heap := hP
  have hD : va_D V (mL AB cI cZ sc ar) := hD
  refine lv_aload_n hx hb dX4_start_0 rfl (lv_at hl 0 rfl) ?_
  refine lv_iconst (v := 0) hx hb dX4_start_1 (by decide) ?_
  refine va_put (D := (dC, dI)) (ci := 4) (v := .int 0) (ty := .int) (C := RX4) (T := TX4) (N := 33) hx hb hts hinX4 tyX4 tyX4_ok nmX4 hown hK hP hD hS 0 rfl rfl 0 (by decide) (hts _ (List.mem_of_getElem? (i := 1) rfl)) (fun _ h9 => h9) rfl (by decide +kernel) rfl rfl (Nat.le_of_ble_eq_true rfl) dX4_start_2 (fun H locs hP hD hS => ?_)
  have hP : va_P (dC, dI) vwCl (mL AB cI cZ (va_up sc 0 0) ar) H := hP
  have hD : va_D V (mL AB cI cZ (va_up sc 0 0) ar) := hD
  refine lv_aload_n hx hb dX4_start_5 rfl (lv_at hl 0 rfl) ?_
  refine vp_callSi (W.runV (As := []) (rest := []) ⟨hx, hb, hml, hown, hts⟩ (m_startBelief l dC dI AB cI cZ (va_up sc 0 0, ar) (C := C) hC hC6) (cwV 0 hts gX4_start_X4_startBelief rfl rfl rfl (by decide +kernel) ⟨Nat.le_of_ble_eq_true rfl, Nat.le_of_ble_eq_true rfl⟩) ⟨bm_P, va_recv hK hP (ci := 4) (q0 := 0) rfl rfl, fun U hU hW => ⟨rfl, by rw [hU]; exact hP, va_K.moved hW.alike hK⟩⟩ rfl rfl hl.1 rfl (lv_room (Nat.le_of_ble_eq_true rfl)) dX4_start_6 ⟨Nat.zero_le _, Nat.zero_le _⟩) (fun r er => ?_)
  obtain rfl : r = stR (sc, ar) C := er.trans (by rw [(frz_sc frz.rf (by decide)).st])
  exact W.iret hx hb hr (fun t ht hW => ⟨⟨_, (va_up sc 0 0, ar), rfl, ⟨rfl, rfl⟩, by rw [ht]; exact hP, hD⟩, hS.F ht⟩) hS.2.2 dX4_start_9
set_option maxHeartbeats 4000000 in
set_option maxRecDepth 100000 in
/-- nodes  -/
theorem m_nodes (l : Launch) (dC : Nat → ClassId) (dI : Nat → Nat → Nat) (AB : Nat → Nat) (cI cZ : ClassId) (τ : MS) (sz : Nat)  : Met l yX4_nodes wsX4_nodes ({ frames := 12, cells := 0, slots := 0, locals := 600 }) (va_Pc [.ref (AB 0)] (mF dC dI AB cI cZ sz τ)) (va_Qi (fun (r : Int32) (τ2 : MS) => r = τ.1 15 ∧ τ2 = (va_up τ.1 0 0, τ.2)) (mB dC dI AB cI cZ (va_A (mW AB cI cZ τ) sz)) (va_A (mW AB cI cZ τ) sz)) 0 0 (va_A (mW AB cI cZ τ) sz) := by
  obtain ⟨sc, ar⟩ := τ
  refine Met.ofW (cc := cX4_nodes) (maxL := 1) (ret := (some .int)) (by decide) rfl ?_
  intro p e s m args below meth c s₁ B hml hv
  obtain ⟨rfl, hsz, hP, hK, hD0⟩ := hv
  have hx := B.exec
  have hb := B.bytes
  have hr := B.returns
  have hts := atoms_spec (ws := wsX4_nodes) B.pre
  have hown : s.vm.findClass RX4 = some m.cls := findClass_of_methodNamed B.named
  have hlocks := B.notSynchronized
  have hinX4 : ∀ w ∈ wsX40, w ∈ wsX4_nodes := fun _ h => List.mem_cons_of_mem _ (List.mem_append_right _ h)
  subst hsz
  have hD := hD0.self (sz := s.heap.size)
  generalize hAe : va_A (mW AB cI cZ _) s.heap.size = V at hD ⊢
  have hA : ∀ q : Nat, s.heap.size ≤ q → V q := fun q h => by rw [← hAe]; exact Or.inr h
  have hS : va_S V s.heap s.heap [] := va_S.rf
  have hl := lv_entry ([.ref (AB 0)]) (n := 1) (Nat.le_of_ble_eq_true rfl)
  rw [lg_entry_eq]
  generalize (lg_sl ([.ref (AB 0)]) ++ List.replicate (1 - (lg_sl ([.ref (AB 0)])).length) Slot.unset).toArray = ls at hl ⊢
  have hl : lv_has ls 1 [(0, .ref (AB 0))] := hl
  have hP : va_P (dC, dI) vwCl (mL AB cI cZ sc ar) s.heap := hP
  have hD : va_D V (mL AB cI cZ sc ar) := hD
  refine lv_aload_n hx hb dX4_nodes_0 rfl (lv_at hl 0 rfl) ?_
  refine lv_iconst (v := 0) hx hb dX4_nodes_1 (by decide) ?_
  refine va_put (D := (dC, dI)) (ci := 4) (v := .int 0) (ty := .int) (C := RX4) (T := TX4) (N := 33) hx hb hts hinX4 tyX4 tyX4_ok nmX4 hown hK hP hD hS 0 rfl rfl 0 (by decide) (hts _ (List.mem_of_getElem? (i := 1) rfl)) (fun _ h9 => h9) rfl (by decide +kernel) rfl rfl (Nat.le_of_ble_eq_true rfl) dX4_nodes_2 (fun H locs hP hD hS => ?_)
  have hP : va_P (dC, dI) vwCl (mL AB cI cZ (va_up sc 0 0) ar) H := hP
  have hD : va_D V (mL AB cI cZ (va_up sc 0 0) ar) := hD
  refine lv_aload_n hx hb dX4_nodes_5 rfl (lv_at hl 0 rfl) ?_
  refine va_get (D := (dC, dI)) (ci := 4) (v := .int (sc 15)) (C := RX4) (T := TX4) (N := 33) hx hb hts hinX4 hown hK hP 0 rfl rfl 15 (by decide) (hts _ (List.mem_of_getElem? (i := 2) rfl)) (fun _ h9 => h9) rfl dX4_nodes_6 ?_
  exact W.iret hx hb hr (fun t ht hW => ⟨⟨_, (va_up sc 0 0, ar), rfl, ⟨rfl, rfl⟩, by rw [ht]; exact hP, hD⟩, hS.F ht⟩) hS.2.2 dX4_nodes_9
set_option maxHeartbeats 4000000 in
set_option maxRecDepth 100000 in
/-- made  -/
theorem m_made (l : Launch) (dC : Nat → ClassId) (dI : Nat → Nat → Nat) (AB : Nat → Nat) (cI cZ : ClassId) (τ : MS) (sz : Nat)  : Met l yX4_made wsX4_made ({ frames := 12, cells := 0, slots := 0, locals := 600 }) (va_Pc [.ref (AB 0)] (mF dC dI AB cI cZ sz τ)) (va_Qi (fun (r : Int32) (τ2 : MS) => r = τ.1 29 ∧ τ2 = (va_up τ.1 0 0, τ.2)) (mB dC dI AB cI cZ (va_A (mW AB cI cZ τ) sz)) (va_A (mW AB cI cZ τ) sz)) 0 0 (va_A (mW AB cI cZ τ) sz) := by
  obtain ⟨sc, ar⟩ := τ
  refine Met.ofW (cc := cX4_made) (maxL := 1) (ret := (some .int)) (by decide) rfl ?_
  intro p e s m args below meth c s₁ B hml hv
  obtain ⟨rfl, hsz, hP, hK, hD0⟩ := hv
  have hx := B.exec
  have hb := B.bytes
  have hr := B.returns
  have hts := atoms_spec (ws := wsX4_made) B.pre
  have hown : s.vm.findClass RX4 = some m.cls := findClass_of_methodNamed B.named
  have hlocks := B.notSynchronized
  have hinX4 : ∀ w ∈ wsX40, w ∈ wsX4_made := fun _ h => List.mem_cons_of_mem _ (List.mem_append_right _ h)
  subst hsz
  have hD := hD0.self (sz := s.heap.size)
  generalize hAe : va_A (mW AB cI cZ _) s.heap.size = V at hD ⊢
  have hA : ∀ q : Nat, s.heap.size ≤ q → V q := fun q h => by rw [← hAe]; exact Or.inr h
  have hS : va_S V s.heap s.heap [] := va_S.rf
  have hl := lv_entry ([.ref (AB 0)]) (n := 1) (Nat.le_of_ble_eq_true rfl)
  rw [lg_entry_eq]
  generalize (lg_sl ([.ref (AB 0)]) ++ List.replicate (1 - (lg_sl ([.ref (AB 0)])).length) Slot.unset).toArray = ls at hl ⊢
  have hl : lv_has ls 1 [(0, .ref (AB 0))] := hl
  have hP : va_P (dC, dI) vwCl (mL AB cI cZ sc ar) s.heap := hP
  have hD : va_D V (mL AB cI cZ sc ar) := hD
  refine lv_aload_n hx hb dX4_made_0 rfl (lv_at hl 0 rfl) ?_
  refine lv_iconst (v := 0) hx hb dX4_made_1 (by decide) ?_
  refine va_put (D := (dC, dI)) (ci := 4) (v := .int 0) (ty := .int) (C := RX4) (T := TX4) (N := 33) hx hb hts hinX4 tyX4 tyX4_ok nmX4 hown hK hP hD hS 0 rfl rfl 0 (by decide) (hts _ (List.mem_of_getElem? (i := 1) rfl)) (fun _ h9 => h9) rfl (by decide +kernel) rfl rfl (Nat.le_of_ble_eq_true rfl) dX4_made_2 (fun H locs hP hD hS => ?_)
  have hP : va_P (dC, dI) vwCl (mL AB cI cZ (va_up sc 0 0) ar) H := hP
  have hD : va_D V (mL AB cI cZ (va_up sc 0 0) ar) := hD
  refine lv_aload_n hx hb dX4_made_5 rfl (lv_at hl 0 rfl) ?_
  refine va_get (D := (dC, dI)) (ci := 4) (v := .int (sc 29)) (C := RX4) (T := TX4) (N := 33) hx hb hts hinX4 hown hK hP 0 rfl rfl 29 (by decide) (hts _ (List.mem_of_getElem? (i := 2) rfl)) (fun _ h9 => h9) rfl dX4_made_6 ?_
  exact W.iret hx hb hr (fun t ht hW => ⟨⟨_, (va_up sc 0 0, ar), rfl, ⟨rfl, rfl⟩, by rw [ht]; exact hP, hD⟩, hS.F ht⟩) hS.2.2 dX4_made_9
set_option maxHeartbeats 4000000 in
set_option maxRecDepth 100000 in
/-- behind 1 -/
theorem m_behind1 (l : Launch) (dC : Nat → ClassId) (dI : Nat → Nat → Nat) (AB : Nat → Nat) (cI cZ : ClassId) (τ : MS) (sz : Nat) (x b : Int32) (h : wiB x 0 7 = false) : Met l yX4_behind wsX4_behind ({ frames := 12, cells := 0, slots := 0, locals := 600 }) (va_Pc [.ref (AB 0), .int x, .int b] (mF dC dI AB cI cZ sz τ)) (va_Qi (fun (r : Int32) (τ2 : MS) => r = 0 ∧ τ2 = (va_up τ.1 0 1, τ.2)) (mB dC dI AB cI cZ (va_A (mW AB cI cZ τ) sz)) (va_A (mW AB cI cZ τ) sz)) 0 0 (va_A (mW AB cI cZ τ) sz) := by
  obtain ⟨sc, ar⟩ := τ
  refine Met.ofW (cc := cX4_behind) (maxL := 3) (ret := (some .int)) (by decide) rfl ?_
  intro p e s m args below meth c s₁ B hml hv
  obtain ⟨rfl, hsz, hP, hK, hD0⟩ := hv
  have hx := B.exec
  have hb := B.bytes
  have hr := B.returns
  have hts := atoms_spec (ws := wsX4_behind) B.pre
  have hown : s.vm.findClass RX4 = some m.cls := findClass_of_methodNamed B.named
  have hlocks := B.notSynchronized
  have hinX4 : ∀ w ∈ wsX40, w ∈ wsX4_behind := fun _ h => List.mem_cons_of_mem _ (List.mem_append_right _ h)
  subst hsz
  have hD := hD0.self (sz := s.heap.size)
  generalize hAe : va_A (mW AB cI cZ _) s.heap.size = V at hD ⊢
  have hA : ∀ q : Nat, s.heap.size ≤ q → V q := fun q h => by rw [← hAe]; exact Or.inr h
  have hS : va_S V s.heap s.heap [] := va_S.rf
  have hl := lv_entry ([.ref (AB 0), .int x, .int b]) (n := 3) (Nat.le_of_ble_eq_true rfl)
  rw [lg_entry_eq]
  generalize (lg_sl ([.ref (AB 0), .int x, .int b]) ++ List.replicate (3 - (lg_sl ([.ref (AB 0), .int x, .int b])).length) Slot.unset).toArray = ls at hl ⊢
  have hl : lv_has ls 3 [(0, .ref (AB 0)), (1, .int x), (2, .int b)] := hl
  have hP : va_P (dC, dI) vwCl (mL AB cI cZ sc ar) s.heap := hP
  have hD : va_D V (mL AB cI cZ sc ar) := hD
  refine lv_aload_n hx hb dX4_behind_0 rfl (lv_at hl 0 rfl) ?_
  refine lv_iconst (v := 0) hx hb dX4_behind_1 (by decide) ?_
  refine va_put (D := (dC, dI)) (ci := 4) (v := .int 0) (ty := .int) (C := RX4) (T := TX4) (N := 33) hx hb hts hinX4 tyX4 tyX4_ok nmX4 hown hK hP hD hS 0 rfl rfl 0 (by decide) (hts _ (List.mem_of_getElem? (i := 1) rfl)) (fun _ h9 => h9) rfl (by decide +kernel) rfl rfl (Nat.le_of_ble_eq_true rfl) dX4_behind_2 (fun H locs hP hD hS => ?_)
  have hP : va_P (dC, dI) vwCl (mL AB cI cZ (va_up sc 0 0) ar) H := hP
  have hD : va_D V (mL AB cI cZ (va_up sc 0 0) ar) := hD
  refine lv_iload_n hx hb dX4_behind_5 rfl (lv_at hl 1 rfl) ?_
  refine lv_iconst (v := 0) hx hb dX4_behind_6 (by decide) ?_
  refine lv_bipush (v := 7) hx hb dX4_behind_7 (by decide) ?_
  refine vp_callSi (W.runS (As := [.int x, .int 0, .int 7]) (rest := []) ⟨hx, hb, hml, hown, hts⟩ (m_within l x 0 7) (va_cwS 3 hts gX4_behind_X4_within rfl rfl rfl (by decide +kernel) ⟨Nat.le_of_ble_eq_true rfl, Nat.le_of_ble_eq_true rfl⟩) ⟨bl_T, fun U hU hW => ⟨rfl, trivial⟩⟩ rfl rfl hl.1 rfl (lv_room (Nat.le_of_ble_eq_true rfl)) dX4_behind_9 ⟨Nat.zero_le _, Nat.zero_le _⟩) (fun r er => ?_)
  obtain rfl : r = b2i (wiB x 0 7) := er
  refine lv_if_ne (tgt := 21) hx hb dX4_behind_12 (by decide) (fun c12_0 => ?_) (fun c12_0 => ?_)
  · exact absurd ((b2i_n0.mp c12_0).symm.trans h) (by decide)
  · skip
    refine lv_aload_n hx hb dX4_behind_15 rfl (lv_at hl 0 rfl) ?_
    refine lv_iconst (v := 1) hx hb dX4_behind_16 (by decide) ?_
    have hFc := m_free (τ := (va_up sc 0 0, ar)) hD hS hA
    refine va_calli (va_runV (As := [.int 1]) (rest := []) ⟨hx, hb, hml, hown, hts⟩ (m_fail l dC dI AB cI cZ (va_up sc 0 0, ar) H.size 1) (cwV 1 hts gX4_behind_X4_fail rfl rfl rfl (by decide +kernel) ⟨Nat.le_of_ble_eq_true rfl, Nat.le_of_ble_eq_true rfl⟩) ⟨bm_F, va_recv hK hP (ci := 4) (q0 := 0) rfl rfl, fun U hU hW => ⟨rfl, by rw [hU], by rw [hU]; exact hP, va_K.moved hW.alike hK, hf_any hD⟩⟩ rfl rfl hl.1 rfl (lv_room (Nat.le_of_ble_eq_true rfl)) dX4_behind_17 ⟨Nat.zero_le _, Nat.zero_le _⟩) hS (fun q _ h => hFc q h) hFc (fun r u t H locs ht hvm hw hB hz1 hk1 hS => ?_)
    obtain ⟨hP1, hD1⟩ := hB
    rw [ht] at hP1
    obtain ⟨rfl, rfl⟩ := hw
    have hP : va_P (dC, dI) vwCl (mL AB cI cZ (va_up sc 0 1) ar) H := hP1
    have hD : va_D V (mL AB cI cZ (va_up sc 0 1) ar) := hf_weak hD1 hFc
    clear hP1 hD1 hFc
    exact W.iret hx hb hr (fun t ht hW => ⟨⟨_, (va_up sc 0 1, ar), rfl, ⟨rfl, rfl⟩, by rw [ht]; exact hP, hD⟩, hS.F ht⟩) hS.2.2 dX4_behind_20
set_option maxHeartbeats 4000000 in
set_option maxRecDepth 100000 in
/-- behind 2 -/
theorem m_behind2 (l : Launch) (dC : Nat → ClassId) (dI : Nat → Nat → Nat) (AB : Nat → Nat) (cI cZ : ClassId) (τ : MS) (sz : Nat) {th : Nat → Bool} {ef : Nat → Nat} (hM : mok th ef τ) {a : Nat} (ha : a < 8) (b : Int32) (h : th a = false) : Met l yX4_behind wsX4_behind ({ frames := 12, cells := 0, slots := 0, locals := 600 }) (va_Pc [.ref (AB 0), .int (nI a), .int b] (mF dC dI AB cI cZ sz τ)) (va_Qi (fun (r : Int32) (τ2 : MS) => r = 0 ∧ τ2 = (va_up τ.1 0 2, τ.2)) (mB dC dI AB cI cZ (va_A (mW AB cI cZ τ) sz)) (va_A (mW AB cI cZ τ) sz)) 0 0 (va_A (mW AB cI cZ τ) sz) := by
  obtain ⟨sc, ar⟩ := τ
  refine Met.ofW (cc := cX4_behind) (maxL := 3) (ret := (some .int)) (by decide) rfl ?_
  intro p e s m args below meth c s₁ B hml hv
  obtain ⟨rfl, hsz, hP, hK, hD0⟩ := hv
  have hx := B.exec
  have hb := B.bytes
  have hr := B.returns
  have hts := atoms_spec (ws := wsX4_behind) B.pre
  have hown : s.vm.findClass RX4 = some m.cls := findClass_of_methodNamed B.named
  have hlocks := B.notSynchronized
  have hinX4 : ∀ w ∈ wsX40, w ∈ wsX4_behind := fun _ h => List.mem_cons_of_mem _ (List.mem_append_right _ h)
  subst hsz
  have hD := hD0.self (sz := s.heap.size)
  generalize hAe : va_A (mW AB cI cZ _) s.heap.size = V at hD ⊢
  have hA : ∀ q : Nat, s.heap.size ≤ q → V q := fun q h => by rw [← hAe]; exact Or.inr h
  have hS : va_S V s.heap s.heap [] := va_S.rf
  have hl := lv_entry ([.ref (AB 0), .int (nI a), .int b]) (n := 3) (Nat.le_of_ble_eq_true rfl)
  rw [lg_entry_eq]
  generalize (lg_sl ([.ref (AB 0), .int (nI a), .int b]) ++ List.replicate (3 - (lg_sl ([.ref (AB 0), .int (nI a), .int b])).length) Slot.unset).toArray = ls at hl ⊢
  have hl : lv_has ls 3 [(0, .ref (AB 0)), (1, .int (nI a)), (2, .int b)] := hl
  have hP : va_P (dC, dI) vwCl (mL AB cI cZ sc ar) s.heap := hP
  have hD : va_D V (mL AB cI cZ sc ar) := hD
  refine lv_aload_n hx hb dX4_behind_0 rfl (lv_at hl 0 rfl) ?_
  refine lv_iconst (v := 0) hx hb dX4_behind_1 (by decide) ?_
  refine va_put (D := (dC, dI)) (ci := 4) (v := .int 0) (ty := .int) (C := RX4) (T := TX4) (N := 33) hx hb hts hinX4 tyX4 tyX4_ok nmX4 hown hK hP hD hS 0 rfl rfl 0 (by decide) (hts _ (List.mem_of_getElem? (i := 1) rfl)) (fun _ h9 => h9) rfl (by decide +kernel) rfl rfl (Nat.le_of_ble_eq_true rfl) dX4_behind_2 (fun H locs hP hD hS => ?_)
  have hP : va_P (dC, dI) vwCl (mL AB cI cZ (va_up sc 0 0) ar) H := hP
  have hD : va_D V (mL AB cI cZ (va_up sc 0 0) ar) := hD
  refine lv_iload_n hx hb dX4_behind_5 rfl (lv_at hl 1 rfl) ?_
  refine lv_iconst (v := 0) hx hb dX4_behind_6 (by decide) ?_
  refine lv_bipush (v := 7) hx hb dX4_behind_7 (by decide) ?_
  refine vp_callSi (W.runS (As := [.int (nI a), .int 0, .int 7]) (rest := []) ⟨hx, hb, hml, hown, hts⟩ (m_within l (nI a) 0 7) (va_cwS 3 hts gX4_behind_X4_within rfl rfl rfl (by decide +kernel) ⟨Nat.le_of_ble_eq_true rfl, Nat.le_of_ble_eq_true rfl⟩) ⟨bl_T, fun U hU hW => ⟨rfl, trivial⟩⟩ rfl rfl hl.1 rfl (lv_room (Nat.le_of_ble_eq_true rfl)) dX4_behind_9 ⟨Nat.zero_le _, Nat.zero_le _⟩) (fun r er => ?_)
  obtain rfl : r = b2i (wiB (nI a) 0 7) := er
  refine lv_if_ne (tgt := 21) hx hb dX4_behind_12 (by decide) (fun c12_0 => ?_) (fun c12_0 => ?_)
  · skip
    refine lv_aload_n hx hb dX4_behind_21 rfl (lv_at hl 0 rfl) ?_
    refine va_get (D := (dC, dI)) (ci := 4) (v := .ref (AB 1)) (C := RX4) (T := TX4) (N := 33) hx hb hts hinX4 hown hK hP 0 rfl rfl 1 (by decide) (hts _ (List.mem_of_getElem? (i := 2) rfl)) (fun _ h9 => h9) rfl dX4_behind_22 ?_
    refine lv_iload_n hx hb dX4_behind_25 rfl (lv_at hl 1 rfl) ?_
    refine va_zald hx hb hK hP 1 1 rfl rfl (vp_in_nI (show a < 8 by omega) (by decide)) dX4_behind_26 ?_
    rw [nI_clamp (show a < 2 ^ 31 by have := (show a < 8 by omega); omega)]
    refine lv_topi (fun y1 ey1 => ?_)
    obtain rfl : y1 = b2i (th a) := ey1.trans ((hM a ha).1)
    refine lv_if_ne (tgt := 36) hx hb dX4_behind_27 (by decide) (fun c27_2 => ?_) (fun c27_2 => ?_)
    · exact absurd ((b2i_n0.mp c27_2).symm.trans h) (by decide)
    · skip
      refine lv_aload_n hx hb dX4_behind_30 rfl (lv_at hl 0 rfl) ?_
      refine lv_iconst (v := 2) hx hb dX4_behind_31 (by decide) ?_
      have hFc := m_free (τ := (va_up sc 0 0, ar)) hD hS hA
      refine va_calli (va_runV (As := [.int 2]) (rest := []) ⟨hx, hb, hml, hown, hts⟩ (m_fail l dC dI AB cI cZ (va_up sc 0 0, ar) H.size 2) (cwV 1 hts gX4_behind_X4_fail rfl rfl rfl (by decide +kernel) ⟨Nat.le_of_ble_eq_true rfl, Nat.le_of_ble_eq_true rfl⟩) ⟨bm_F, va_recv hK hP (ci := 4) (q0 := 0) rfl rfl, fun U hU hW => ⟨rfl, by rw [hU], by rw [hU]; exact hP, va_K.moved hW.alike hK, hf_any hD⟩⟩ rfl rfl hl.1 rfl (lv_room (Nat.le_of_ble_eq_true rfl)) dX4_behind_32 ⟨Nat.zero_le _, Nat.zero_le _⟩) hS (fun q _ h => hFc q h) hFc (fun r u t H locs ht hvm hw hB hz1 hk1 hS => ?_)
      obtain ⟨hP1, hD1⟩ := hB
      rw [ht] at hP1
      obtain ⟨rfl, rfl⟩ := hw
      have hP : va_P (dC, dI) vwCl (mL AB cI cZ (va_up sc 0 2) ar) H := hP1
      have hD : va_D V (mL AB cI cZ (va_up sc 0 2) ar) := hf_weak hD1 hFc
      clear hP1 hD1 hFc
      exact W.iret hx hb hr (fun t ht hW => ⟨⟨_, (va_up sc 0 2, ar), rfl, ⟨rfl, rfl⟩, by rw [ht]; exact hP, hD⟩, hS.F ht⟩) hS.2.2 dX4_behind_35
  · exact absurd ((b2i_0.mp c12_0).symm.trans (wi_nat (n := 7) (k := a) (by omega) (by decide))) (by decide)
set_option maxHeartbeats 4000000 in
set_option maxRecDepth 100000 in
/-- behind 3 -/
theorem m_behind3 (l : Launch) (dC : Nat → ClassId) (dI : Nat → Nat → Nat) (AB : Nat → Nat) (cI cZ : ClassId) (τ : MS) (sz : Nat) {th : Nat → Bool} {ef : Nat → Nat} (hM : mok th ef τ) {a : Nat} (ha : a < 8) (b : Int32) (h1 : th a = true) (h : wiB b 0 65535 = false) : Met l yX4_behind wsX4_behind ({ frames := 12, cells := 0, slots := 0, locals := 600 }) (va_Pc [.ref (AB 0), .int (nI a), .int b] (mF dC dI AB cI cZ sz τ)) (va_Qi (fun (r : Int32) (τ2 : MS) => r = 0 ∧ τ2 = (va_up τ.1 0 3, τ.2)) (mB dC dI AB cI cZ (va_A (mW AB cI cZ τ) sz)) (va_A (mW AB cI cZ τ) sz)) 0 0 (va_A (mW AB cI cZ τ) sz) := by
  obtain ⟨sc, ar⟩ := τ
  refine Met.ofW (cc := cX4_behind) (maxL := 3) (ret := (some .int)) (by decide) rfl ?_
  intro p e s m args below meth c s₁ B hml hv
  obtain ⟨rfl, hsz, hP, hK, hD0⟩ := hv
  have hx := B.exec
  have hb := B.bytes
  have hr := B.returns
  have hts := atoms_spec (ws := wsX4_behind) B.pre
  have hown : s.vm.findClass RX4 = some m.cls := findClass_of_methodNamed B.named
  have hlocks := B.notSynchronized
  have hinX4 : ∀ w ∈ wsX40, w ∈ wsX4_behind := fun _ h => List.mem_cons_of_mem _ (List.mem_append_right _ h)
  subst hsz
  have hD := hD0.self (sz := s.heap.size)
  generalize hAe : va_A (mW AB cI cZ _) s.heap.size = V at hD ⊢
  have hA : ∀ q : Nat, s.heap.size ≤ q → V q := fun q h => by rw [← hAe]; exact Or.inr h
  have hS : va_S V s.heap s.heap [] := va_S.rf
  have hl := lv_entry ([.ref (AB 0), .int (nI a), .int b]) (n := 3) (Nat.le_of_ble_eq_true rfl)
  rw [lg_entry_eq]
  generalize (lg_sl ([.ref (AB 0), .int (nI a), .int b]) ++ List.replicate (3 - (lg_sl ([.ref (AB 0), .int (nI a), .int b])).length) Slot.unset).toArray = ls at hl ⊢
  have hl : lv_has ls 3 [(0, .ref (AB 0)), (1, .int (nI a)), (2, .int b)] := hl
  have hP : va_P (dC, dI) vwCl (mL AB cI cZ sc ar) s.heap := hP
  have hD : va_D V (mL AB cI cZ sc ar) := hD
  refine lv_aload_n hx hb dX4_behind_0 rfl (lv_at hl 0 rfl) ?_
  refine lv_iconst (v := 0) hx hb dX4_behind_1 (by decide) ?_
  refine va_put (D := (dC, dI)) (ci := 4) (v := .int 0) (ty := .int) (C := RX4) (T := TX4) (N := 33) hx hb hts hinX4 tyX4 tyX4_ok nmX4 hown hK hP hD hS 0 rfl rfl 0 (by decide) (hts _ (List.mem_of_getElem? (i := 1) rfl)) (fun _ h9 => h9) rfl (by decide +kernel) rfl rfl (Nat.le_of_ble_eq_true rfl) dX4_behind_2 (fun H locs hP hD hS => ?_)
  have hP : va_P (dC, dI) vwCl (mL AB cI cZ (va_up sc 0 0) ar) H := hP
  have hD : va_D V (mL AB cI cZ (va_up sc 0 0) ar) := hD
  refine lv_iload_n hx hb dX4_behind_5 rfl (lv_at hl 1 rfl) ?_
  refine lv_iconst (v := 0) hx hb dX4_behind_6 (by decide) ?_
  refine lv_bipush (v := 7) hx hb dX4_behind_7 (by decide) ?_
  refine vp_callSi (W.runS (As := [.int (nI a), .int 0, .int 7]) (rest := []) ⟨hx, hb, hml, hown, hts⟩ (m_within l (nI a) 0 7) (va_cwS 3 hts gX4_behind_X4_within rfl rfl rfl (by decide +kernel) ⟨Nat.le_of_ble_eq_true rfl, Nat.le_of_ble_eq_true rfl⟩) ⟨bl_T, fun U hU hW => ⟨rfl, trivial⟩⟩ rfl rfl hl.1 rfl (lv_room (Nat.le_of_ble_eq_true rfl)) dX4_behind_9 ⟨Nat.zero_le _, Nat.zero_le _⟩) (fun r er => ?_)
  obtain rfl : r = b2i (wiB (nI a) 0 7) := er
  refine lv_if_ne (tgt := 21) hx hb dX4_behind_12 (by decide) (fun c12_0 => ?_) (fun c12_0 => ?_)
  · skip
    refine lv_aload_n hx hb dX4_behind_21 rfl (lv_at hl 0 rfl) ?_
    refine va_get (D := (dC, dI)) (ci := 4) (v := .ref (AB 1)) (C := RX4) (T := TX4) (N := 33) hx hb hts hinX4 hown hK hP 0 rfl rfl 1 (by decide) (hts _ (List.mem_of_getElem? (i := 2) rfl)) (fun _ h9 => h9) rfl dX4_behind_22 ?_
    refine lv_iload_n hx hb dX4_behind_25 rfl (lv_at hl 1 rfl) ?_
    refine va_zald hx hb hK hP 1 1 rfl rfl (vp_in_nI (show a < 8 by omega) (by decide)) dX4_behind_26 ?_
    rw [nI_clamp (show a < 2 ^ 31 by have := (show a < 8 by omega); omega)]
    refine lv_topi (fun y1 ey1 => ?_)
    obtain rfl : y1 = b2i (th a) := ey1.trans ((hM a ha).1)
    refine lv_if_ne (tgt := 36) hx hb dX4_behind_27 (by decide) (fun c27_2 => ?_) (fun c27_2 => ?_)
    · skip
      refine lv_iload_n hx hb dX4_behind_36 rfl (lv_at hl 2 rfl) ?_
      refine lv_iconst (v := 0) hx hb dX4_behind_37 (by decide) ?_
      refine lv_ldc (v := (65535)) hx hb hown (hts _ (List.mem_of_getElem? (i := 3) rfl)) dX4_behind_38 ?_
      refine vp_callSi (W.runS (As := [.int b, .int 0, .int (65535)]) (rest := []) ⟨hx, hb, hml, hown, hts⟩ (m_within l b 0 (65535)) (va_cwS 3 hts gX4_behind_X4_within rfl rfl rfl (by decide +kernel) ⟨Nat.le_of_ble_eq_true rfl, Nat.le_of_ble_eq_true rfl⟩) ⟨bl_T, fun U hU hW => ⟨rfl, trivial⟩⟩ rfl rfl hl.1 rfl (lv_room (Nat.le_of_ble_eq_true rfl)) dX4_behind_40 ⟨Nat.zero_le _, Nat.zero_le _⟩) (fun r er => ?_)
      obtain rfl : r = b2i (wiB b 0 (65535)) := er
      refine lv_if_ne (tgt := 52) hx hb dX4_behind_43 (by decide) (fun c43_3 => ?_) (fun c43_3 => ?_)
      · exact absurd ((b2i_n0.mp c43_3).symm.trans h) (by decide)
      · skip
        refine lv_aload_n hx hb dX4_behind_46 rfl (lv_at hl 0 rfl) ?_
        refine lv_iconst (v := 3) hx hb dX4_behind_47 (by decide) ?_
        have hFc := m_free (τ := (va_up sc 0 0, ar)) hD hS hA
        refine va_calli (va_runV (As := [.int 3]) (rest := []) ⟨hx, hb, hml, hown, hts⟩ (m_fail l dC dI AB cI cZ (va_up sc 0 0, ar) H.size 3) (cwV 1 hts gX4_behind_X4_fail rfl rfl rfl (by decide +kernel) ⟨Nat.le_of_ble_eq_true rfl, Nat.le_of_ble_eq_true rfl⟩) ⟨bm_F, va_recv hK hP (ci := 4) (q0 := 0) rfl rfl, fun U hU hW => ⟨rfl, by rw [hU], by rw [hU]; exact hP, va_K.moved hW.alike hK, hf_any hD⟩⟩ rfl rfl hl.1 rfl (lv_room (Nat.le_of_ble_eq_true rfl)) dX4_behind_48 ⟨Nat.zero_le _, Nat.zero_le _⟩) hS (fun q _ h => hFc q h) hFc (fun r u t H locs ht hvm hw hB hz1 hk1 hS => ?_)
        obtain ⟨hP1, hD1⟩ := hB
        rw [ht] at hP1
        obtain ⟨rfl, rfl⟩ := hw
        have hP : va_P (dC, dI) vwCl (mL AB cI cZ (va_up sc 0 3) ar) H := hP1
        have hD : va_D V (mL AB cI cZ (va_up sc 0 3) ar) := hf_weak hD1 hFc
        clear hP1 hD1 hFc
        exact W.iret hx hb hr (fun t ht hW => ⟨⟨_, (va_up sc 0 3, ar), rfl, ⟨rfl, rfl⟩, by rw [ht]; exact hP, hD⟩, hS.F ht⟩) hS.2.2 dX4_behind_51
    · exact absurd ((b2i_0.mp c27_2).symm.trans h1) (by decide)
  · exact absurd ((b2i_0.mp c12_0).symm.trans (wi_nat (n := 7) (k := a) (by omega) (by decide))) (by decide)
set_option maxHeartbeats 4000000 in
set_option maxRecDepth 100000 in
/-- behind 4 -/
theorem m_behind4 (l : Launch) (dC : Nat → ClassId) (dI : Nat → Nat → Nat) (AB : Nat → Nat) (cI cZ : ClassId) (τ : MS) (sz : Nat) {th : Nat → Bool} {ef : Nat → Nat} (hM : mok th ef τ) {a : Nat} (ha : a < 8) (b : Int32) (h1 : th a = true) (h2 : wiB b 0 65535 = true) (h : usR th τ a b = false) : Met l yX4_behind wsX4_behind ({ frames := 12, cells := 0, slots := 0, locals := 600 }) (va_Pc [.ref (AB 0), .int (nI a), .int b] (mF dC dI AB cI cZ sz τ)) (va_Qi (fun (r : Int32) (τ2 : MS) => r = 0 ∧ τ2 = (va_up τ.1 0 4, τ.2)) (mB dC dI AB cI cZ (va_A (mW AB cI cZ τ) sz)) (va_A (mW AB cI cZ τ) sz)) 0 0 (va_A (mW AB cI cZ τ) sz) := by
  obtain ⟨sc, ar⟩ := τ
  refine Met.ofW (cc := cX4_behind) (maxL := 3) (ret := (some .int)) (by decide) rfl ?_
  intro p e s m args below meth c s₁ B hml hv
  obtain ⟨rfl, hsz, hP, hK, hD0⟩ := hv
  have hx := B.exec
  have hb := B.bytes
  have hr := B.returns
  have hts := atoms_spec (ws := wsX4_behind) B.pre
  have hown : s.vm.findClass RX4 = some m.cls := findClass_of_methodNamed B.named
  have hlocks := B.notSynchronized
  have hinX4 : ∀ w ∈ wsX40, w ∈ wsX4_behind := fun _ h => List.mem_cons_of_mem _ (List.mem_append_right _ h)
  subst hsz
  have hD := hD0.self (sz := s.heap.size)
  generalize hAe : va_A (mW AB cI cZ _) s.heap.size = V at hD ⊢
  have hA : ∀ q : Nat, s.heap.size ≤ q → V q := fun q h => by rw [← hAe]; exact Or.inr h
  have hS : va_S V s.heap s.heap [] := va_S.rf
  have hl := lv_entry ([.ref (AB 0), .int (nI a), .int b]) (n := 3) (Nat.le_of_ble_eq_true rfl)
  rw [lg_entry_eq]
  generalize (lg_sl ([.ref (AB 0), .int (nI a), .int b]) ++ List.replicate (3 - (lg_sl ([.ref (AB 0), .int (nI a), .int b])).length) Slot.unset).toArray = ls at hl ⊢
  have hl : lv_has ls 3 [(0, .ref (AB 0)), (1, .int (nI a)), (2, .int b)] := hl
  have hP : va_P (dC, dI) vwCl (mL AB cI cZ sc ar) s.heap := hP
  have hD : va_D V (mL AB cI cZ sc ar) := hD
  refine lv_aload_n hx hb dX4_behind_0 rfl (lv_at hl 0 rfl) ?_
  refine lv_iconst (v := 0) hx hb dX4_behind_1 (by decide) ?_
  refine va_put (D := (dC, dI)) (ci := 4) (v := .int 0) (ty := .int) (C := RX4) (T := TX4) (N := 33) hx hb hts hinX4 tyX4 tyX4_ok nmX4 hown hK hP hD hS 0 rfl rfl 0 (by decide) (hts _ (List.mem_of_getElem? (i := 1) rfl)) (fun _ h9 => h9) rfl (by decide +kernel) rfl rfl (Nat.le_of_ble_eq_true rfl) dX4_behind_2 (fun H locs hP hD hS => ?_)
  have hP : va_P (dC, dI) vwCl (mL AB cI cZ (va_up sc 0 0) ar) H := hP
  have hD : va_D V (mL AB cI cZ (va_up sc 0 0) ar) := hD
  refine lv_iload_n hx hb dX4_behind_5 rfl (lv_at hl 1 rfl) ?_
  refine lv_iconst (v := 0) hx hb dX4_behind_6 (by decide) ?_
  refine lv_bipush (v := 7) hx hb dX4_behind_7 (by decide) ?_
  refine vp_callSi (W.runS (As := [.int (nI a), .int 0, .int 7]) (rest := []) ⟨hx, hb, hml, hown, hts⟩ (m_within l (nI a) 0 7) (va_cwS 3 hts gX4_behind_X4_within rfl rfl rfl (by decide +kernel) ⟨Nat.le_of_ble_eq_true rfl, Nat.le_of_ble_eq_true rfl⟩) ⟨bl_T, fun U hU hW => ⟨rfl, trivial⟩⟩ rfl rfl hl.1 rfl (lv_room (Nat.le_of_ble_eq_true rfl)) dX4_behind_9 ⟨Nat.zero_le _, Nat.zero_le _⟩) (fun r er => ?_)
  obtain rfl : r = b2i (wiB (nI a) 0 7) := er
  refine lv_if_ne (tgt := 21) hx hb dX4_behind_12 (by decide) (fun c12_0 => ?_) (fun c12_0 => ?_)
  · skip
    refine lv_aload_n hx hb dX4_behind_21 rfl (lv_at hl 0 rfl) ?_
    refine va_get (D := (dC, dI)) (ci := 4) (v := .ref (AB 1)) (C := RX4) (T := TX4) (N := 33) hx hb hts hinX4 hown hK hP 0 rfl rfl 1 (by decide) (hts _ (List.mem_of_getElem? (i := 2) rfl)) (fun _ h9 => h9) rfl dX4_behind_22 ?_
    refine lv_iload_n hx hb dX4_behind_25 rfl (lv_at hl 1 rfl) ?_
    refine va_zald hx hb hK hP 1 1 rfl rfl (vp_in_nI (show a < 8 by omega) (by decide)) dX4_behind_26 ?_
    rw [nI_clamp (show a < 2 ^ 31 by have := (show a < 8 by omega); omega)]
    refine lv_topi (fun y1 ey1 => ?_)
    obtain rfl : y1 = b2i (th a) := ey1.trans ((hM a ha).1)
    refine lv_if_ne (tgt := 36) hx hb dX4_behind_27 (by decide) (fun c27_2 => ?_) (fun c27_2 => ?_)
    · skip
      refine lv_iload_n hx hb dX4_behind_36 rfl (lv_at hl 2 rfl) ?_
      refine lv_iconst (v := 0) hx hb dX4_behind_37 (by decide) ?_
      refine lv_ldc (v := (65535)) hx hb hown (hts _ (List.mem_of_getElem? (i := 3) rfl)) dX4_behind_38 ?_
      refine vp_callSi (W.runS (As := [.int b, .int 0, .int (65535)]) (rest := []) ⟨hx, hb, hml, hown, hts⟩ (m_within l b 0 (65535)) (va_cwS 3 hts gX4_behind_X4_within rfl rfl rfl (by decide +kernel) ⟨Nat.le_of_ble_eq_true rfl, Nat.le_of_ble_eq_true rfl⟩) ⟨bl_T, fun U hU hW => ⟨rfl, trivial⟩⟩ rfl rfl hl.1 rfl (lv_room (Nat.le_of_ble_eq_true rfl)) dX4_behind_40 ⟨Nat.zero_le _, Nat.zero_le _⟩) (fun r er => ?_)
      obtain rfl : r = b2i (wiB b 0 (65535)) := er
      refine lv_if_ne (tgt := 52) hx hb dX4_behind_43 (by decide) (fun c43_3 => ?_) (fun c43_3 => ?_)
      · skip
        refine lv_aload_n hx hb dX4_behind_52 rfl (lv_at hl 0 rfl) ?_
        refine lv_iload_n hx hb dX4_behind_53 rfl (lv_at hl 1 rfl) ?_
        refine lv_iload_n hx hb dX4_behind_54 rfl (lv_at hl 2 rfl) ?_
        refine vp_callSi (W.runV (As := [.int (nI a), .int b]) (rest := []) ⟨hx, hb, hml, hown, hts⟩ (m_usable l dC dI AB cI cZ (va_up sc 0 0, ar) th ha ((frz_sc frz.rf (by decide)).mok hM _ ha).1 b) (cwV 2 hts gX4_behind_X4_usable rfl rfl rfl (by decide +kernel) ⟨Nat.le_of_ble_eq_true rfl, Nat.le_of_ble_eq_true rfl⟩) ⟨bm_P, va_recv hK hP (ci := 4) (q0 := 0) rfl rfl, fun U hU hW => ⟨rfl, by rw [hU]; exact hP, va_K.moved hW.alike hK⟩⟩ rfl rfl hl.1 rfl (lv_room (Nat.le_of_ble_eq_true rfl)) dX4_behind_55 ⟨Nat.zero_le _, Nat.zero_le _⟩) (fun r er => ?_)
        obtain rfl : r = b2i (usR th (sc, ar) a b) := er.trans (by rw [(frz_sc frz.rf (by decide)).us])
        refine lv_if_eq (tgt := 70) hx hb dX4_behind_58 (by decide) (fun c58_4 => ?_) (fun c58_4 => ?_)
        · skip
          refine lv_aload_n hx hb dX4_behind_70 rfl (lv_at hl 0 rfl) ?_
          refine lv_iconst (v := 4) hx hb dX4_behind_71 (by decide) ?_
          have hFc := m_free (τ := (va_up sc 0 0, ar)) hD hS hA
          refine va_calli (va_runV (As := [.int 4]) (rest := []) ⟨hx, hb, hml, hown, hts⟩ (m_fail l dC dI AB cI cZ (va_up sc 0 0, ar) H.size 4) (cwV 1 hts gX4_behind_X4_fail rfl rfl rfl (by decide +kernel) ⟨Nat.le_of_ble_eq_true rfl, Nat.le_of_ble_eq_true rfl⟩) ⟨bm_F, va_recv hK hP (ci := 4) (q0 := 0) rfl rfl, fun U hU hW => ⟨rfl, by rw [hU], by rw [hU]; exact hP, va_K.moved hW.alike hK, hf_any hD⟩⟩ rfl rfl hl.1 rfl (lv_room (Nat.le_of_ble_eq_true rfl)) dX4_behind_72 ⟨Nat.zero_le _, Nat.zero_le _⟩) hS (fun q _ h => hFc q h) hFc (fun r u t H locs ht hvm hw hB hz1 hk1 hS => ?_)
          obtain ⟨hP1, hD1⟩ := hB
          rw [ht] at hP1
          obtain ⟨rfl, rfl⟩ := hw
          have hP : va_P (dC, dI) vwCl (mL AB cI cZ (va_up sc 0 4) ar) H := hP1
          have hD : va_D V (mL AB cI cZ (va_up sc 0 4) ar) := hf_weak hD1 hFc
          clear hP1 hD1 hFc
          exact W.iret hx hb hr (fun t ht hW => ⟨⟨_, (va_up sc 0 4, ar), rfl, ⟨rfl, rfl⟩, by rw [ht]; exact hP, hD⟩, hS.F ht⟩) hS.2.2 dX4_behind_75
        · exact absurd ((b2i_n0.mp c58_4).symm.trans h) (by decide)
      · exact absurd ((b2i_0.mp c43_3).symm.trans h2) (by decide)
    · exact absurd ((b2i_0.mp c27_2).symm.trans h1) (by decide)
  · exact absurd ((b2i_0.mp c12_0).symm.trans (wi_nat (n := 7) (k := a) (by omega) (by decide))) (by decide)
set_option maxHeartbeats 4000000 in
set_option maxRecDepth 100000 in
/-- behind 0 -/
theorem m_behind0 (l : Launch) (dC : Nat → ClassId) (dI : Nat → Nat → Nat) (AB : Nat → Nat) (cI cZ : ClassId) (τ : MS) (sz : Nat) {th : Nat → Bool} {ef : Nat → Nat} (hM : mok th ef τ) {a : Nat} (ha : a < 8) (b : Int32) (h1 : th a = true) (h2 : wiB b 0 65535 = true) (h : usR th τ a b = true) : Met l yX4_behind wsX4_behind ({ frames := 12, cells := 0, slots := 0, locals := 600 }) (va_Pc [.ref (AB 0), .int (nI a), .int b] (mF dC dI AB cI cZ sz τ)) (va_Qi (fun (r : Int32) (τ2 : MS) => r = afR ef τ a b ∧ τ2 = (va_up τ.1 0 0, τ.2)) (mB dC dI AB cI cZ (va_A (mW AB cI cZ τ) sz)) (va_A (mW AB cI cZ τ) sz)) 0 0 (va_A (mW AB cI cZ τ) sz) := by
  obtain ⟨sc, ar⟩ := τ
  refine Met.ofW (cc := cX4_behind) (maxL := 3) (ret := (some .int)) (by decide) rfl ?_
  intro p e s m args below meth c s₁ B hml hv
  obtain ⟨rfl, hsz, hP, hK, hD0⟩ := hv
  have hx := B.exec
  have hb := B.bytes
  have hr := B.returns
  have hts := atoms_spec (ws := wsX4_behind) B.pre
  have hown : s.vm.findClass RX4 = some m.cls := findClass_of_methodNamed B.named
  have hlocks := B.notSynchronized
  have hinX4 : ∀ w ∈ wsX40, w ∈ wsX4_behind := fun _ h => List.mem_cons_of_mem _ (List.mem_append_right _ h)
  subst hsz
  have hD := hD0.self (sz := s.heap.size)
  generalize hAe : va_A (mW AB cI cZ _) s.heap.size = V at hD ⊢
  have hA : ∀ q : Nat, s.heap.size ≤ q → V q := fun q h => by rw [← hAe]; exact Or.inr h
  have hS : va_S V s.heap s.heap [] := va_S.rf
  have hl := lv_entry ([.ref (AB 0), .int (nI a), .int b]) (n := 3) (Nat.le_of_ble_eq_true rfl)
  rw [lg_entry_eq]
  generalize (lg_sl ([.ref (AB 0), .int (nI a), .int b]) ++ List.replicate (3 - (lg_sl ([.ref (AB 0), .int (nI a), .int b])).length) Slot.unset).toArray = ls at hl ⊢
  have hl : lv_has ls 3 [(0, .ref (AB 0)), (1, .int (nI a)), (2, .int b)] := hl
  have hP : va_P (dC, dI) vwCl (mL AB cI cZ sc ar) s.heap := hP
  have hD : va_D V (mL AB cI cZ sc ar) := hD
  refine lv_aload_n hx hb dX4_behind_0 rfl (lv_at hl 0 rfl) ?_
  refine lv_iconst (v := 0) hx hb dX4_behind_1 (by decide) ?_
  refine va_put (D := (dC, dI)) (ci := 4) (v := .int 0) (ty := .int) (C := RX4) (T := TX4) (N := 33) hx hb hts hinX4 tyX4 tyX4_ok nmX4 hown hK hP hD hS 0 rfl rfl 0 (by decide) (hts _ (List.mem_of_getElem? (i := 1) rfl)) (fun _ h9 => h9) rfl (by decide +kernel) rfl rfl (Nat.le_of_ble_eq_true rfl) dX4_behind_2 (fun H locs hP hD hS => ?_)
  have hP : va_P (dC, dI) vwCl (mL AB cI cZ (va_up sc 0 0) ar) H := hP
  have hD : va_D V (mL AB cI cZ (va_up sc 0 0) ar) := hD
  refine lv_iload_n hx hb dX4_behind_5 rfl (lv_at hl 1 rfl) ?_
  refine lv_iconst (v := 0) hx hb dX4_behind_6 (by decide) ?_
  refine lv_bipush (v := 7) hx hb dX4_behind_7 (by decide) ?_
  refine vp_callSi (W.runS (As := [.int (nI a), .int 0, .int 7]) (rest := []) ⟨hx, hb, hml, hown, hts⟩ (m_within l (nI a) 0 7) (va_cwS 3 hts gX4_behind_X4_within rfl rfl rfl (by decide +kernel) ⟨Nat.le_of_ble_eq_true rfl, Nat.le_of_ble_eq_true rfl⟩) ⟨bl_T, fun U hU hW => ⟨rfl, trivial⟩⟩ rfl rfl hl.1 rfl (lv_room (Nat.le_of_ble_eq_true rfl)) dX4_behind_9 ⟨Nat.zero_le _, Nat.zero_le _⟩) (fun r er => ?_)
  obtain rfl : r = b2i (wiB (nI a) 0 7) := er
  refine lv_if_ne (tgt := 21) hx hb dX4_behind_12 (by decide) (fun c12_0 => ?_) (fun c12_0 => ?_)
  · skip
    refine lv_aload_n hx hb dX4_behind_21 rfl (lv_at hl 0 rfl) ?_
    refine va_get (D := (dC, dI)) (ci := 4) (v := .ref (AB 1)) (C := RX4) (T := TX4) (N := 33) hx hb hts hinX4 hown hK hP 0 rfl rfl 1 (by decide) (hts _ (List.mem_of_getElem? (i := 2) rfl)) (fun _ h9 => h9) rfl dX4_behind_22 ?_
    refine lv_iload_n hx hb dX4_behind_25 rfl (lv_at hl 1 rfl) ?_
    refine va_zald hx hb hK hP 1 1 rfl rfl (vp_in_nI (show a < 8 by omega) (by decide)) dX4_behind_26 ?_
    rw [nI_clamp (show a < 2 ^ 31 by have := (show a < 8 by omega); omega)]
    refine lv_topi (fun y1 ey1 => ?_)
    obtain rfl : y1 = b2i (th a) := ey1.trans ((hM a ha).1)
    refine lv_if_ne (tgt := 36) hx hb dX4_behind_27 (by decide) (fun c27_2 => ?_) (fun c27_2 => ?_)
    · skip
      refine lv_iload_n hx hb dX4_behind_36 rfl (lv_at hl 2 rfl) ?_
      refine lv_iconst (v := 0) hx hb dX4_behind_37 (by decide) ?_
      refine lv_ldc (v := (65535)) hx hb hown (hts _ (List.mem_of_getElem? (i := 3) rfl)) dX4_behind_38 ?_
      refine vp_callSi (W.runS (As := [.int b, .int 0, .int (65535)]) (rest := []) ⟨hx, hb, hml, hown, hts⟩ (m_within l b 0 (65535)) (va_cwS 3 hts gX4_behind_X4_within rfl rfl rfl (by decide +kernel) ⟨Nat.le_of_ble_eq_true rfl, Nat.le_of_ble_eq_true rfl⟩) ⟨bl_T, fun U hU hW => ⟨rfl, trivial⟩⟩ rfl rfl hl.1 rfl (lv_room (Nat.le_of_ble_eq_true rfl)) dX4_behind_40 ⟨Nat.zero_le _, Nat.zero_le _⟩) (fun r er => ?_)
      obtain rfl : r = b2i (wiB b 0 (65535)) := er
      refine lv_if_ne (tgt := 52) hx hb dX4_behind_43 (by decide) (fun c43_3 => ?_) (fun c43_3 => ?_)
      · skip
        refine lv_aload_n hx hb dX4_behind_52 rfl (lv_at hl 0 rfl) ?_
        refine lv_iload_n hx hb dX4_behind_53 rfl (lv_at hl 1 rfl) ?_
        refine lv_iload_n hx hb dX4_behind_54 rfl (lv_at hl 2 rfl) ?_
        refine vp_callSi (W.runV (As := [.int (nI a), .int b]) (rest := []) ⟨hx, hb, hml, hown, hts⟩ (m_usable l dC dI AB cI cZ (va_up sc 0 0, ar) th ha ((frz_sc frz.rf (by decide)).mok hM _ ha).1 b) (cwV 2 hts gX4_behind_X4_usable rfl rfl rfl (by decide +kernel) ⟨Nat.le_of_ble_eq_true rfl, Nat.le_of_ble_eq_true rfl⟩) ⟨bm_P, va_recv hK hP (ci := 4) (q0 := 0) rfl rfl, fun U hU hW => ⟨rfl, by rw [hU]; exact hP, va_K.moved hW.alike hK⟩⟩ rfl rfl hl.1 rfl (lv_room (Nat.le_of_ble_eq_true rfl)) dX4_behind_55 ⟨Nat.zero_le _, Nat.zero_le _⟩) (fun r er => ?_)
        obtain rfl : r = b2i (usR th (sc, ar) a b) := er.trans (by rw [(frz_sc frz.rf (by decide)).us])
        refine lv_if_eq (tgt := 70) hx hb dX4_behind_58 (by decide) (fun c58_4 => ?_) (fun c58_4 => ?_)
        · exact absurd ((b2i_0.mp c58_4).symm.trans h) (by decide)
        · skip
          refine lv_aload_n hx hb dX4_behind_61 rfl (lv_at hl 0 rfl) ?_
          refine lv_iload_n hx hb dX4_behind_62 rfl (lv_at hl 1 rfl) ?_
          refine lv_iload_n hx hb dX4_behind_63 rfl (lv_at hl 2 rfl) ?_
          refine vp_callSi (W.runV (As := [.int (nI a), .int b]) (rest := []) ⟨hx, hb, hml, hown, hts⟩ (m_after l dC dI AB cI cZ (va_up sc 0 0, ar) ef ha ((frz_sc frz.rf (by decide)).mok hM _ ha).2.1 (hM _ ha).2.2 b) (cwV 2 hts gX4_behind_X4_after rfl rfl rfl (by decide +kernel) ⟨Nat.le_of_ble_eq_true rfl, Nat.le_of_ble_eq_true rfl⟩) ⟨bm_P, va_recv hK hP (ci := 4) (q0 := 0) rfl rfl, fun U hU hW => ⟨rfl, by rw [hU]; exact hP, va_K.moved hW.alike hK⟩⟩ rfl rfl hl.1 rfl (lv_room (Nat.le_of_ble_eq_true rfl)) dX4_behind_64 ⟨Nat.zero_le _, Nat.zero_le _⟩) (fun r er => ?_)
          obtain rfl : r = afR ef (sc, ar) a b := er.trans (by rw [(frz_sc frz.rf (by decide)).af])
          refine lv_goto (tgt := 75) hx hb dX4_behind_67 (by decide) ?_
          exact W.iret hx hb hr (fun t ht hW => ⟨⟨_, (va_up sc 0 0, ar), rfl, ⟨rfl, rfl⟩, by rw [ht]; exact hP, hD⟩, hS.F ht⟩) hS.2.2 dX4_behind_75
      · exact absurd ((b2i_0.mp c43_3).symm.trans h2) (by decide)
    · exact absurd ((b2i_0.mp c27_2).symm.trans h1) (by decide)
  · exact absurd ((b2i_0.mp c12_0).symm.trans (wi_nat (n := 7) (k := a) (by omega) (by decide))) (by decide)
set_option maxHeartbeats 4000000 in
set_option maxRecDepth 100000 in
/-- node 1 -/
theorem m_node1 (l : Launch) (dC : Nat → ClassId) (dI : Nat → Nat → Nat) (AB : Nat → Nat) (cI cZ : ClassId) (τ : MS) (sz : Nat) (i x : Int32) (h : (wiB i 0 (τ.1 15 - 1) && wiB x 0 2) = false) : Met l yX4_node wsX4_node ({ frames := 12, cells := 0, slots := 0, locals := 600 }) (va_Pc [.ref (AB 0), .int i, .int x] (mF dC dI AB cI cZ sz τ)) (va_Qi (fun (r : Int32) (τ2 : MS) => r = 0 ∧ τ2 = (va_up τ.1 0 1, τ.2)) (mB dC dI AB cI cZ (va_A (mW AB cI cZ τ) sz)) (va_A (mW AB cI cZ τ) sz)) 0 0 (va_A (mW AB cI cZ τ) sz) := by
  obtain ⟨sc, ar⟩ := τ
  refine Met.ofW (cc := cX4_node) (maxL := 3) (ret := (some .int)) (by decide) rfl ?_
  intro p e s m args below meth c s₁ B hml hv
  obtain ⟨rfl, hsz, hP, hK, hD0⟩ := hv
  have hx := B.exec
  have hb := B.bytes
  have hr := B.returns
  have hts := atoms_spec (ws := wsX4_node) B.pre
  have hown : s.vm.findClass RX4 = some m.cls := findClass_of_methodNamed B.named
  have hlocks := B.notSynchronized
  have hinX4 : ∀ w ∈ wsX40, w ∈ wsX4_node := fun _ h => List.mem_cons_of_mem _ (List.mem_append_right _ h)
  subst hsz
  have hD := hD0.self (sz := s.heap.size)
  generalize hAe : va_A (mW AB cI cZ _) s.heap.size = V at hD ⊢
  have hA : ∀ q : Nat, s.heap.size ≤ q → V q := fun q h => by rw [← hAe]; exact Or.inr h
  have hS : va_S V s.heap s.heap [] := va_S.rf
  have hl := lv_entry ([.ref (AB 0), .int i, .int x]) (n := 3) (Nat.le_of_ble_eq_true rfl)
  rw [lg_entry_eq]
  generalize (lg_sl ([.ref (AB 0), .int i, .int x]) ++ List.replicate (3 - (lg_sl ([.ref (AB 0), .int i, .int x])).length) Slot.unset).toArray = ls at hl ⊢
  have hl : lv_has ls 3 [(0, .ref (AB 0)), (1, .int i), (2, .int x)] := hl
  have hP : va_P (dC, dI) vwCl (mL AB cI cZ sc ar) s.heap := hP
  have hD : va_D V (mL AB cI cZ sc ar) := hD
  refine lv_aload_n hx hb dX4_node_0 rfl (lv_at hl 0 rfl) ?_
  refine lv_iconst (v := 0) hx hb dX4_node_1 (by decide) ?_
  refine va_put (D := (dC, dI)) (ci := 4) (v := .int 0) (ty := .int) (C := RX4) (T := TX4) (N := 33) hx hb hts hinX4 tyX4 tyX4_ok nmX4 hown hK hP hD hS 0 rfl rfl 0 (by decide) (hts _ (List.mem_of_getElem? (i := 1) rfl)) (fun _ h9 => h9) rfl (by decide +kernel) rfl rfl (Nat.le_of_ble_eq_true rfl) dX4_node_2 (fun H locs hP hD hS => ?_)
  have hP : va_P (dC, dI) vwCl (mL AB cI cZ (va_up sc 0 0) ar) H := hP
  have hD : va_D V (mL AB cI cZ (va_up sc 0 0) ar) := hD
  refine lv_iload_n hx hb dX4_node_5 rfl (lv_at hl 1 rfl) ?_
  refine lv_iconst (v := 0) hx hb dX4_node_6 (by decide) ?_
  refine lv_aload_n hx hb dX4_node_7 rfl (lv_at hl 0 rfl) ?_
  refine va_get (D := (dC, dI)) (ci := 4) (v := .int (sc 15)) (C := RX4) (T := TX4) (N := 33) hx hb hts hinX4 hown hK hP 0 rfl rfl 15 (by decide) (hts _ (List.mem_of_getElem? (i := 2) rfl)) (fun _ h9 => h9) rfl dX4_node_8 ?_
  refine lv_iconst (v := 1) hx hb dX4_node_11 (by decide) ?_
  refine lv_isub hx hb dX4_node_12 ?_
  refine vp_callSi (W.runS (As := [.int i, .int 0, .int ((sc 15) - 1)]) (rest := []) ⟨hx, hb, hml, hown, hts⟩ (m_within l i 0 ((sc 15) - 1)) (va_cwS 3 hts gX4_node_X4_within rfl rfl rfl (by decide +kernel) ⟨Nat.le_of_ble_eq_true rfl, Nat.le_of_ble_eq_true rfl⟩) ⟨bl_T, fun U hU hW => ⟨rfl, trivial⟩⟩ rfl rfl hl.1 rfl (lv_room (Nat.le_of_ble_eq_true rfl)) dX4_node_13 ⟨Nat.zero_le _, Nat.zero_le _⟩) (fun r er => ?_)
  obtain rfl : r = b2i (wiB i 0 ((sc 15) - 1)) := er
  refine lv_if_eq (tgt := 28) hx hb dX4_node_16 (by decide) (fun c16_0 => ?_) (fun c16_0 => ?_)
  · skip
    refine lv_aload_n hx hb dX4_node_28 rfl (lv_at hl 0 rfl) ?_
    refine lv_iconst (v := 1) hx hb dX4_node_29 (by decide) ?_
    have hFc := m_free (τ := (va_up sc 0 0, ar)) hD hS hA
    refine va_calli (va_runV (As := [.int 1]) (rest := []) ⟨hx, hb, hml, hown, hts⟩ (m_fail l dC dI AB cI cZ (va_up sc 0 0, ar) H.size 1) (cwV 1 hts gX4_node_X4_fail rfl rfl rfl (by decide +kernel) ⟨Nat.le_of_ble_eq_true rfl, Nat.le_of_ble_eq_true rfl⟩) ⟨bm_F, va_recv hK hP (ci := 4) (q0 := 0) rfl rfl, fun U hU hW => ⟨rfl, by rw [hU], by rw [hU]; exact hP, va_K.moved hW.alike hK, hf_any hD⟩⟩ rfl rfl hl.1 rfl (lv_room (Nat.le_of_ble_eq_true rfl)) dX4_node_30 ⟨Nat.zero_le _, Nat.zero_le _⟩) hS (fun q _ h => hFc q h) hFc (fun r u t H locs ht hvm hw hB hz1 hk1 hS => ?_)
    obtain ⟨hP1, hD1⟩ := hB
    rw [ht] at hP1
    obtain ⟨rfl, rfl⟩ := hw
    have hP : va_P (dC, dI) vwCl (mL AB cI cZ (va_up sc 0 1) ar) H := hP1
    have hD : va_D V (mL AB cI cZ (va_up sc 0 1) ar) := hf_weak hD1 hFc
    clear hP1 hD1 hFc
    exact W.iret hx hb hr (fun t ht hW => ⟨⟨_, (va_up sc 0 1, ar), rfl, ⟨rfl, rfl⟩, by rw [ht]; exact hP, hD⟩, hS.F ht⟩) hS.2.2 dX4_node_33
  · skip
    refine lv_iload_n hx hb dX4_node_19 rfl (lv_at hl 2 rfl) ?_
    refine lv_iconst (v := 0) hx hb dX4_node_20 (by decide) ?_
    refine lv_iconst (v := 2) hx hb dX4_node_21 (by decide) ?_
    refine vp_callSi (W.runS (As := [.int x, .int 0, .int 2]) (rest := []) ⟨hx, hb, hml, hown, hts⟩ (m_within l x 0 2) (va_cwS 3 hts gX4_node_X4_within rfl rfl rfl (by decide +kernel) ⟨Nat.le_of_ble_eq_true rfl, Nat.le_of_ble_eq_true rfl⟩) ⟨bl_T, fun U hU hW => ⟨rfl, trivial⟩⟩ rfl rfl hl.1 rfl (lv_room (Nat.le_of_ble_eq_true rfl)) dX4_node_22 ⟨Nat.zero_le _, Nat.zero_le _⟩) (fun r er => ?_)
    obtain rfl : r = b2i (wiB x 0 2) := er
    refine lv_if_ne (tgt := 34) hx hb dX4_node_25 (by decide) (fun c25_1 => ?_) (fun c25_1 => ?_)
    · exact absurd h (by rw [show wiB i 0 ((sc, ar).1 15 - 1) = true from b2i_n0.mp c16_0, b2i_n0.mp c25_1]; decide)
    · skip
      refine lv_aload_n hx hb dX4_node_28 rfl (lv_at hl 0 rfl) ?_
      refine lv_iconst (v := 1) hx hb dX4_node_29 (by decide) ?_
      have hFc := m_free (τ := (va_up sc 0 0, ar)) hD hS hA
      refine va_calli (va_runV (As := [.int 1]) (rest := []) ⟨hx, hb, hml, hown, hts⟩ (m_fail l dC dI AB cI cZ (va_up sc 0 0, ar) H.size 1) (cwV 1 hts gX4_node_X4_fail rfl rfl rfl (by decide +kernel) ⟨Nat.le_of_ble_eq_true rfl, Nat.le_of_ble_eq_true rfl⟩) ⟨bm_F, va_recv hK hP (ci := 4) (q0 := 0) rfl rfl, fun U hU hW => ⟨rfl, by rw [hU], by rw [hU]; exact hP, va_K.moved hW.alike hK, hf_any hD⟩⟩ rfl rfl hl.1 rfl (lv_room (Nat.le_of_ble_eq_true rfl)) dX4_node_30 ⟨Nat.zero_le _, Nat.zero_le _⟩) hS (fun q _ h => hFc q h) hFc (fun r u t H locs ht hvm hw hB hz1 hk1 hS => ?_)
      obtain ⟨hP1, hD1⟩ := hB
      rw [ht] at hP1
      obtain ⟨rfl, rfl⟩ := hw
      have hP : va_P (dC, dI) vwCl (mL AB cI cZ (va_up sc 0 1) ar) H := hP1
      have hD : va_D V (mL AB cI cZ (va_up sc 0 1) ar) := hf_weak hD1 hFc
      clear hP1 hD1 hFc
      exact W.iret hx hb hr (fun t ht hW => ⟨⟨_, (va_up sc 0 1, ar), rfl, ⟨rfl, rfl⟩, by rw [ht]; exact hP, hD⟩, hS.F ht⟩) hS.2.2 dX4_node_33
set_option maxHeartbeats 4000000 in
set_option maxRecDepth 100000 in
/-- node 0a -/
theorem m_node0a (l : Launch) (dC : Nat → ClassId) (dI : Nat → Nat → Nat) (AB : Nat → Nat) (cI cZ : ClassId) (τ : MS) (sz : Nat) {i : Nat} (hi : i < 31) (h1 : wiB (nI i) 0 (τ.1 15 - 1) = true) : Met l yX4_node wsX4_node ({ frames := 12, cells := 0, slots := 0, locals := 600 }) (va_Pc [.ref (AB 0), .int (nI i), .int 0] (mF dC dI AB cI cZ sz τ)) (va_Qi (fun (r : Int32) (τ2 : MS) => r = τ.2 16 i ∧ τ2 = (va_up τ.1 0 0, τ.2)) (mB dC dI AB cI cZ (va_A (mW AB cI cZ τ) sz)) (va_A (mW AB cI cZ τ) sz)) 0 0 (va_A (mW AB cI cZ τ) sz) := by
  obtain ⟨sc, ar⟩ := τ
  refine Met.ofW (cc := cX4_node) (maxL := 3) (ret := (some .int)) (by decide) rfl ?_
  intro p e s m args below meth c s₁ B hml hv
  obtain ⟨rfl, hsz, hP, hK, hD0⟩ := hv
  have hx := B.exec
  have hb := B.bytes
  have hr := B.returns
  have hts := atoms_spec (ws := wsX4_node) B.pre
  have hown : s.vm.findClass RX4 = some m.cls := findClass_of_methodNamed B.named
  have hlocks := B.notSynchronized
  have hinX4 : ∀ w ∈ wsX40, w ∈ wsX4_node := fun _ h => List.mem_cons_of_mem _ (List.mem_append_right _ h)
  subst hsz
  have hD := hD0.self (sz := s.heap.size)
  generalize hAe : va_A (mW AB cI cZ _) s.heap.size = V at hD ⊢
  have hA : ∀ q : Nat, s.heap.size ≤ q → V q := fun q h => by rw [← hAe]; exact Or.inr h
  have hS : va_S V s.heap s.heap [] := va_S.rf
  have hl := lv_entry ([.ref (AB 0), .int (nI i), .int 0]) (n := 3) (Nat.le_of_ble_eq_true rfl)
  rw [lg_entry_eq]
  generalize (lg_sl ([.ref (AB 0), .int (nI i), .int 0]) ++ List.replicate (3 - (lg_sl ([.ref (AB 0), .int (nI i), .int 0])).length) Slot.unset).toArray = ls at hl ⊢
  have hl : lv_has ls 3 [(0, .ref (AB 0)), (1, .int (nI i)), (2, .int 0)] := hl
  have hP : va_P (dC, dI) vwCl (mL AB cI cZ sc ar) s.heap := hP
  have hD : va_D V (mL AB cI cZ sc ar) := hD
  refine lv_aload_n hx hb dX4_node_0 rfl (lv_at hl 0 rfl) ?_
  refine lv_iconst (v := 0) hx hb dX4_node_1 (by decide) ?_
  refine va_put (D := (dC, dI)) (ci := 4) (v := .int 0) (ty := .int) (C := RX4) (T := TX4) (N := 33) hx hb hts hinX4 tyX4 tyX4_ok nmX4 hown hK hP hD hS 0 rfl rfl 0 (by decide) (hts _ (List.mem_of_getElem? (i := 1) rfl)) (fun _ h9 => h9) rfl (by decide +kernel) rfl rfl (Nat.le_of_ble_eq_true rfl) dX4_node_2 (fun H locs hP hD hS => ?_)
  have hP : va_P (dC, dI) vwCl (mL AB cI cZ (va_up sc 0 0) ar) H := hP
  have hD : va_D V (mL AB cI cZ (va_up sc 0 0) ar) := hD
  refine lv_iload_n hx hb dX4_node_5 rfl (lv_at hl 1 rfl) ?_
  refine lv_iconst (v := 0) hx hb dX4_node_6 (by decide) ?_
  refine lv_aload_n hx hb dX4_node_7 rfl (lv_at hl 0 rfl) ?_
  refine va_get (D := (dC, dI)) (ci := 4) (v := .int (sc 15)) (C := RX4) (T := TX4) (N := 33) hx hb hts hinX4 hown hK hP 0 rfl rfl 15 (by decide) (hts _ (List.mem_of_getElem? (i := 2) rfl)) (fun _ h9 => h9) rfl dX4_node_8 ?_
  refine lv_iconst (v := 1) hx hb dX4_node_11 (by decide) ?_
  refine lv_isub hx hb dX4_node_12 ?_
  refine vp_callSi (W.runS (As := [.int (nI i), .int 0, .int ((sc 15) - 1)]) (rest := []) ⟨hx, hb, hml, hown, hts⟩ (m_within l (nI i) 0 ((sc 15) - 1)) (va_cwS 3 hts gX4_node_X4_within rfl rfl rfl (by decide +kernel) ⟨Nat.le_of_ble_eq_true rfl, Nat.le_of_ble_eq_true rfl⟩) ⟨bl_T, fun U hU hW => ⟨rfl, trivial⟩⟩ rfl rfl hl.1 rfl (lv_room (Nat.le_of_ble_eq_true rfl)) dX4_node_13 ⟨Nat.zero_le _, Nat.zero_le _⟩) (fun r er => ?_)
  obtain rfl : r = b2i (wiB (nI i) 0 ((sc 15) - 1)) := er
  refine lv_if_eq (tgt := 28) hx hb dX4_node_16 (by decide) (fun c16_0 => ?_) (fun c16_0 => ?_)
  · exact absurd ((b2i_0.mp c16_0).symm.trans h1) (by decide)
  · skip
    refine lv_iload_n hx hb dX4_node_19 rfl (lv_at hl 2 rfl) ?_
    refine lv_iconst (v := 0) hx hb dX4_node_20 (by decide) ?_
    refine lv_iconst (v := 2) hx hb dX4_node_21 (by decide) ?_
    refine vp_callSi (W.runS (As := [.int 0, .int 0, .int 2]) (rest := []) ⟨hx, hb, hml, hown, hts⟩ (m_within l 0 0 2) (va_cwS 3 hts gX4_node_X4_within rfl rfl rfl (by decide +kernel) ⟨Nat.le_of_ble_eq_true rfl, Nat.le_of_ble_eq_true rfl⟩) ⟨bl_T, fun U hU hW => ⟨rfl, trivial⟩⟩ rfl rfl hl.1 rfl (lv_room (Nat.le_of_ble_eq_true rfl)) dX4_node_22 ⟨Nat.zero_le _, Nat.zero_le _⟩) (fun r er => ?_)
    obtain rfl : r = b2i (wiB 0 0 2) := er
    refine lv_if_ne (tgt := 34) hx hb dX4_node_25 (by decide) (fun c25_1 => ?_) (fun c25_1 => ?_)
    · skip
      refine lv_iload_n hx hb dX4_node_34 rfl (lv_at hl 2 rfl) ?_
      refine lv_if_ne (tgt := 47) hx hb dX4_node_35 (by decide) (fun c35_2 => ?_) (fun c35_2 => ?_)
      · exact absurd rfl c35_2
      · skip
        refine lv_aload_n hx hb dX4_node_38 rfl (lv_at hl 0 rfl) ?_
        refine va_get (D := (dC, dI)) (ci := 4) (v := .ref (AB 16)) (C := RX4) (T := TX4) (N := 33) hx hb hts hinX4 hown hK hP 0 rfl rfl 16 (by decide) (hts _ (List.mem_of_getElem? (i := 3) rfl)) (fun _ h9 => h9) rfl dX4_node_39 ?_
        refine lv_iload_n hx hb dX4_node_42 rfl (lv_at hl 1 rfl) ?_
        refine va_iald hx hb hK hP 12 0 rfl rfl (vp_in_nI (show i < 32 by omega) (by decide)) dX4_node_43 ?_
        rw [nI_clamp (show i < 2 ^ 31 by have := (show i < 32 by omega); omega)]
        refine lv_goto (tgt := 67) hx hb dX4_node_44 (by decide) ?_
        exact W.iret hx hb hr (fun t ht hW => ⟨⟨_, (va_up sc 0 0, ar), rfl, ⟨rfl, rfl⟩, by rw [ht]; exact hP, hD⟩, hS.F ht⟩) hS.2.2 dX4_node_67
    · exact absurd c25_1 (by decide)
set_option maxHeartbeats 4000000 in
set_option maxRecDepth 100000 in
/-- node 0b -/
theorem m_node0b (l : Launch) (dC : Nat → ClassId) (dI : Nat → Nat → Nat) (AB : Nat → Nat) (cI cZ : ClassId) (τ : MS) (sz : Nat) {i : Nat} (hi : i < 31) (h1 : wiB (nI i) 0 (τ.1 15 - 1) = true) : Met l yX4_node wsX4_node ({ frames := 12, cells := 0, slots := 0, locals := 600 }) (va_Pc [.ref (AB 0), .int (nI i), .int 1] (mF dC dI AB cI cZ sz τ)) (va_Qi (fun (r : Int32) (τ2 : MS) => r = τ.2 17 i ∧ τ2 = (va_up τ.1 0 0, τ.2)) (mB dC dI AB cI cZ (va_A (mW AB cI cZ τ) sz)) (va_A (mW AB cI cZ τ) sz)) 0 0 (va_A (mW AB cI cZ τ) sz) := by
  obtain ⟨sc, ar⟩ := τ
  refine Met.ofW (cc := cX4_node) (maxL := 3) (ret := (some .int)) (by decide) rfl ?_
  intro p e s m args below meth c s₁ B hml hv
  obtain ⟨rfl, hsz, hP, hK, hD0⟩ := hv
  have hx := B.exec
  have hb := B.bytes
  have hr := B.returns
  have hts := atoms_spec (ws := wsX4_node) B.pre
  have hown : s.vm.findClass RX4 = some m.cls := findClass_of_methodNamed B.named
  have hlocks := B.notSynchronized
  have hinX4 : ∀ w ∈ wsX40, w ∈ wsX4_node := fun _ h => List.mem_cons_of_mem _ (List.mem_append_right _ h)
  subst hsz
  have hD := hD0.self (sz := s.heap.size)
  generalize hAe : va_A (mW AB cI cZ _) s.heap.size = V at hD ⊢
  have hA : ∀ q : Nat, s.heap.size ≤ q → V q := fun q h => by rw [← hAe]; exact Or.inr h
  have hS : va_S V s.heap s.heap [] := va_S.rf
  have hl := lv_entry ([.ref (AB 0), .int (nI i), .int 1]) (n := 3) (Nat.le_of_ble_eq_true rfl)
  rw [lg_entry_eq]
  generalize (lg_sl ([.ref (AB 0), .int (nI i), .int 1]) ++ List.replicate (3 - (lg_sl ([.ref (AB 0), .int (nI i), .int 1])).length) Slot.unset).toArray = ls at hl ⊢
  have hl : lv_has ls 3 [(0, .ref (AB 0)), (1, .int (nI i)), (2, .int 1)] := hl
  have hP : va_P (dC, dI) vwCl (mL AB cI cZ sc ar) s.heap := hP
  have hD : va_D V (mL AB cI cZ sc ar) := hD
  refine lv_aload_n hx hb dX4_node_0 rfl (lv_at hl 0 rfl) ?_
  refine lv_iconst (v := 0) hx hb dX4_node_1 (by decide) ?_
  refine va_put (D := (dC, dI)) (ci := 4) (v := .int 0) (ty := .int) (C := RX4) (T := TX4) (N := 33) hx hb hts hinX4 tyX4 tyX4_ok nmX4 hown hK hP hD hS 0 rfl rfl 0 (by decide) (hts _ (List.mem_of_getElem? (i := 1) rfl)) (fun _ h9 => h9) rfl (by decide +kernel) rfl rfl (Nat.le_of_ble_eq_true rfl) dX4_node_2 (fun H locs hP hD hS => ?_)
  have hP : va_P (dC, dI) vwCl (mL AB cI cZ (va_up sc 0 0) ar) H := hP
  have hD : va_D V (mL AB cI cZ (va_up sc 0 0) ar) := hD
  refine lv_iload_n hx hb dX4_node_5 rfl (lv_at hl 1 rfl) ?_
  refine lv_iconst (v := 0) hx hb dX4_node_6 (by decide) ?_
  refine lv_aload_n hx hb dX4_node_7 rfl (lv_at hl 0 rfl) ?_
  refine va_get (D := (dC, dI)) (ci := 4) (v := .int (sc 15)) (C := RX4) (T := TX4) (N := 33) hx hb hts hinX4 hown hK hP 0 rfl rfl 15 (by decide) (hts _ (List.mem_of_getElem? (i := 2) rfl)) (fun _ h9 => h9) rfl dX4_node_8 ?_
  refine lv_iconst (v := 1) hx hb dX4_node_11 (by decide) ?_
  refine lv_isub hx hb dX4_node_12 ?_
  refine vp_callSi (W.runS (As := [.int (nI i), .int 0, .int ((sc 15) - 1)]) (rest := []) ⟨hx, hb, hml, hown, hts⟩ (m_within l (nI i) 0 ((sc 15) - 1)) (va_cwS 3 hts gX4_node_X4_within rfl rfl rfl (by decide +kernel) ⟨Nat.le_of_ble_eq_true rfl, Nat.le_of_ble_eq_true rfl⟩) ⟨bl_T, fun U hU hW => ⟨rfl, trivial⟩⟩ rfl rfl hl.1 rfl (lv_room (Nat.le_of_ble_eq_true rfl)) dX4_node_13 ⟨Nat.zero_le _, Nat.zero_le _⟩) (fun r er => ?_)
  obtain rfl : r = b2i (wiB (nI i) 0 ((sc 15) - 1)) := er
  refine lv_if_eq (tgt := 28) hx hb dX4_node_16 (by decide) (fun c16_0 => ?_) (fun c16_0 => ?_)
  · exact absurd ((b2i_0.mp c16_0).symm.trans h1) (by decide)
  · skip
    refine lv_iload_n hx hb dX4_node_19 rfl (lv_at hl 2 rfl) ?_
    refine lv_iconst (v := 0) hx hb dX4_node_20 (by decide) ?_
    refine lv_iconst (v := 2) hx hb dX4_node_21 (by decide) ?_
    refine vp_callSi (W.runS (As := [.int 1, .int 0, .int 2]) (rest := []) ⟨hx, hb, hml, hown, hts⟩ (m_within l 1 0 2) (va_cwS 3 hts gX4_node_X4_within rfl rfl rfl (by decide +kernel) ⟨Nat.le_of_ble_eq_true rfl, Nat.le_of_ble_eq_true rfl⟩) ⟨bl_T, fun U hU hW => ⟨rfl, trivial⟩⟩ rfl rfl hl.1 rfl (lv_room (Nat.le_of_ble_eq_true rfl)) dX4_node_22 ⟨Nat.zero_le _, Nat.zero_le _⟩) (fun r er => ?_)
    obtain rfl : r = b2i (wiB 1 0 2) := er
    refine lv_if_ne (tgt := 34) hx hb dX4_node_25 (by decide) (fun c25_1 => ?_) (fun c25_1 => ?_)
    · skip
      refine lv_iload_n hx hb dX4_node_34 rfl (lv_at hl 2 rfl) ?_
      refine lv_if_ne (tgt := 47) hx hb dX4_node_35 (by decide) (fun c35_2 => ?_) (fun c35_2 => ?_)
      · skip
        refine lv_iload_n hx hb dX4_node_47 rfl (lv_at hl 2 rfl) ?_
        refine lv_iconst (v := 1) hx hb dX4_node_48 (by decide) ?_
        refine lv_icmp_ne (tgt := 61) hx hb dX4_node_49 (by decide) (fun c49_3 => ?_) (fun c49_3 => ?_)
        · exact absurd rfl c49_3
        · skip
          refine lv_aload_n hx hb dX4_node_52 rfl (lv_at hl 0 rfl) ?_
          refine va_get (D := (dC, dI)) (ci := 4) (v := .ref (AB 17)) (C := RX4) (T := TX4) (N := 33) hx hb hts hinX4 hown hK hP 0 rfl rfl 17 (by decide) (hts _ (List.mem_of_getElem? (i := 4) rfl)) (fun _ h9 => h9) rfl dX4_node_53 ?_
          refine lv_iload_n hx hb dX4_node_56 rfl (lv_at hl 1 rfl) ?_
          refine va_iald hx hb hK hP 13 0 rfl rfl (vp_in_nI (show i < 32 by omega) (by decide)) dX4_node_57 ?_
          rw [nI_clamp (show i < 2 ^ 31 by have := (show i < 32 by omega); omega)]
          refine lv_goto (tgt := 67) hx hb dX4_node_58 (by decide) ?_
          exact W.iret hx hb hr (fun t ht hW => ⟨⟨_, (va_up sc 0 0, ar), rfl, ⟨rfl, rfl⟩, by rw [ht]; exact hP, hD⟩, hS.F ht⟩) hS.2.2 dX4_node_67
      · exact absurd c35_2 (by decide)
    · exact absurd c25_1 (by decide)
set_option maxHeartbeats 4000000 in
set_option maxRecDepth 100000 in
/-- node 0c -/
theorem m_node0c (l : Launch) (dC : Nat → ClassId) (dI : Nat → Nat → Nat) (AB : Nat → Nat) (cI cZ : ClassId) (τ : MS) (sz : Nat) {i : Nat} (hi : i < 31) (h1 : wiB (nI i) 0 (τ.1 15 - 1) = true) : Met l yX4_node wsX4_node ({ frames := 12, cells := 0, slots := 0, locals := 600 }) (va_Pc [.ref (AB 0), .int (nI i), .int 2] (mF dC dI AB cI cZ sz τ)) (va_Qi (fun (r : Int32) (τ2 : MS) => r = τ.2 18 i ∧ τ2 = (va_up τ.1 0 0, τ.2)) (mB dC dI AB cI cZ (va_A (mW AB cI cZ τ) sz)) (va_A (mW AB cI cZ τ) sz)) 0 0 (va_A (mW AB cI cZ τ) sz) := by
  obtain ⟨sc, ar⟩ := τ
  refine Met.ofW (cc := cX4_node) (maxL := 3) (ret := (some .int)) (by decide) rfl ?_
  intro p e s m args below meth c s₁ B hml hv
  obtain ⟨rfl, hsz, hP, hK, hD0⟩ := hv
  have hx := B.exec
  have hb := B.bytes
  have hr := B.returns
  have hts := atoms_spec (ws := wsX4_node) B.pre
  have hown : s.vm.findClass RX4 = some m.cls := findClass_of_methodNamed B.named
  have hlocks := B.notSynchronized
  have hinX4 : ∀ w ∈ wsX40, w ∈ wsX4_node := fun _ h => List.mem_cons_of_mem _ (List.mem_append_right _ h)
  subst hsz
  have hD := hD0.self (sz := s.heap.size)
  generalize hAe : va_A (mW AB cI cZ _) s.heap.size = V at hD ⊢
  have hA : ∀ q : Nat, s.heap.size ≤ q → V q := fun q h => by rw [← hAe]; exact Or.inr h
  have hS : va_S V s.heap s.heap [] := va_S.rf
  have hl := lv_entry ([.ref (AB 0), .int (nI i), .int 2]) (n := 3) (Nat.le_of_ble_eq_true rfl)
  rw [lg_entry_eq]
  generalize (lg_sl ([.ref (AB 0), .int (nI i), .int 2]) ++ List.replicate (3 - (lg_sl ([.ref (AB 0), .int (nI i), .int 2])).length) Slot.unset).toArray = ls at hl ⊢
  have hl : lv_has ls 3 [(0, .ref (AB 0)), (1, .int (nI i)), (2, .int 2)] := hl
  have hP : va_P (dC, dI) vwCl (mL AB cI cZ sc ar) s.heap := hP
  have hD : va_D V (mL AB cI cZ sc ar) := hD
  refine lv_aload_n hx hb dX4_node_0 rfl (lv_at hl 0 rfl) ?_
  refine lv_iconst (v := 0) hx hb dX4_node_1 (by decide) ?_
  refine va_put (D := (dC, dI)) (ci := 4) (v := .int 0) (ty := .int) (C := RX4) (T := TX4) (N := 33) hx hb hts hinX4 tyX4 tyX4_ok nmX4 hown hK hP hD hS 0 rfl rfl 0 (by decide) (hts _ (List.mem_of_getElem? (i := 1) rfl)) (fun _ h9 => h9) rfl (by decide +kernel) rfl rfl (Nat.le_of_ble_eq_true rfl) dX4_node_2 (fun H locs hP hD hS => ?_)
  have hP : va_P (dC, dI) vwCl (mL AB cI cZ (va_up sc 0 0) ar) H := hP
  have hD : va_D V (mL AB cI cZ (va_up sc 0 0) ar) := hD
  refine lv_iload_n hx hb dX4_node_5 rfl (lv_at hl 1 rfl) ?_
  refine lv_iconst (v := 0) hx hb dX4_node_6 (by decide) ?_
  refine lv_aload_n hx hb dX4_node_7 rfl (lv_at hl 0 rfl) ?_
  refine va_get (D := (dC, dI)) (ci := 4) (v := .int (sc 15)) (C := RX4) (T := TX4) (N := 33) hx hb hts hinX4 hown hK hP 0 rfl rfl 15 (by decide) (hts _ (List.mem_of_getElem? (i := 2) rfl)) (fun _ h9 => h9) rfl dX4_node_8 ?_
  refine lv_iconst (v := 1) hx hb dX4_node_11 (by decide) ?_
  refine lv_isub hx hb dX4_node_12 ?_
  refine vp_callSi (W.runS (As := [.int (nI i), .int 0, .int ((sc 15) - 1)]) (rest := []) ⟨hx, hb, hml, hown, hts⟩ (m_within l (nI i) 0 ((sc 15) - 1)) (va_cwS 3 hts gX4_node_X4_within rfl rfl rfl (by decide +kernel) ⟨Nat.le_of_ble_eq_true rfl, Nat.le_of_ble_eq_true rfl⟩) ⟨bl_T, fun U hU hW => ⟨rfl, trivial⟩⟩ rfl rfl hl.1 rfl (lv_room (Nat.le_of_ble_eq_true rfl)) dX4_node_13 ⟨Nat.zero_le _, Nat.zero_le _⟩) (fun r er => ?_)
  obtain rfl : r = b2i (wiB (nI i) 0 ((sc 15) - 1)) := er
  refine lv_if_eq (tgt := 28) hx hb dX4_node_16 (by decide) (fun c16_0 => ?_) (fun c16_0 => ?_)
  · exact absurd ((b2i_0.mp c16_0).symm.trans h1) (by decide)
  · skip
    refine lv_iload_n hx hb dX4_node_19 rfl (lv_at hl 2 rfl) ?_
    refine lv_iconst (v := 0) hx hb dX4_node_20 (by decide) ?_
    refine lv_iconst (v := 2) hx hb dX4_node_21 (by decide) ?_
    refine vp_callSi (W.runS (As := [.int 2, .int 0, .int 2]) (rest := []) ⟨hx, hb, hml, hown, hts⟩ (m_within l 2 0 2) (va_cwS 3 hts gX4_node_X4_within rfl rfl rfl (by decide +kernel) ⟨Nat.le_of_ble_eq_true rfl, Nat.le_of_ble_eq_true rfl⟩) ⟨bl_T, fun U hU hW => ⟨rfl, trivial⟩⟩ rfl rfl hl.1 rfl (lv_room (Nat.le_of_ble_eq_true rfl)) dX4_node_22 ⟨Nat.zero_le _, Nat.zero_le _⟩) (fun r er => ?_)
    obtain rfl : r = b2i (wiB 2 0 2) := er
    refine lv_if_ne (tgt := 34) hx hb dX4_node_25 (by decide) (fun c25_1 => ?_) (fun c25_1 => ?_)
    · skip
      refine lv_iload_n hx hb dX4_node_34 rfl (lv_at hl 2 rfl) ?_
      refine lv_if_ne (tgt := 47) hx hb dX4_node_35 (by decide) (fun c35_2 => ?_) (fun c35_2 => ?_)
      · skip
        refine lv_iload_n hx hb dX4_node_47 rfl (lv_at hl 2 rfl) ?_
        refine lv_iconst (v := 1) hx hb dX4_node_48 (by decide) ?_
        refine lv_icmp_ne (tgt := 61) hx hb dX4_node_49 (by decide) (fun c49_3 => ?_) (fun c49_3 => ?_)
        · skip
          refine lv_aload_n hx hb dX4_node_61 rfl (lv_at hl 0 rfl) ?_
          refine va_get (D := (dC, dI)) (ci := 4) (v := .ref (AB 18)) (C := RX4) (T := TX4) (N := 33) hx hb hts hinX4 hown hK hP 0 rfl rfl 18 (by decide) (hts _ (List.mem_of_getElem? (i := 5) rfl)) (fun _ h9 => h9) rfl dX4_node_62 ?_
          refine lv_iload_n hx hb dX4_node_65 rfl (lv_at hl 1 rfl) ?_
          refine va_iald hx hb hK hP 14 0 rfl rfl (vp_in_nI (show i < 32 by omega) (by decide)) dX4_node_66 ?_
          rw [nI_clamp (show i < 2 ^ 31 by have := (show i < 32 by omega); omega)]
          exact W.iret hx hb hr (fun t ht hW => ⟨⟨_, (va_up sc 0 0, ar), rfl, ⟨rfl, rfl⟩, by rw [ht]; exact hP, hD⟩, hS.F ht⟩) hS.2.2 dX4_node_67
        · exact absurd c49_3 (by decide)
      · exact absurd c35_2 (by decide)
    · exact absurd c25_1 (by decide)
set_option maxHeartbeats 4000000 in
set_option maxRecDepth 100000 in
/-- edit 1 -/
theorem m_edit1 (l : Launch) (dC : Nat → ClassId) (dI : Nat → Nat → Nat) (AB : Nat → Nat) (cI cZ : ClassId) (τ : MS) (sz : Nat) (i x : Int32) (h : (wiB i 0 (τ.1 15 - 1) && wiB x 0 7) = false) : Met l yX4_edit wsX4_edit ({ frames := 12, cells := 0, slots := 0, locals := 600 }) (va_Pc [.ref (AB 0), .int i, .int x] (mF dC dI AB cI cZ sz τ)) (va_Qi (fun (r : Int32) (τ2 : MS) => r = 0 ∧ τ2 = (va_up τ.1 0 1, τ.2)) (mB dC dI AB cI cZ (va_A (mW AB cI cZ τ) sz)) (va_A (mW AB cI cZ τ) sz)) 0 0 (va_A (mW AB cI cZ τ) sz) := by
  obtain ⟨sc, ar⟩ := τ
  refine Met.ofW (cc := cX4_edit) (maxL := 4) (ret := (some .int)) (by decide) rfl ?_
  intro p e s m args below meth c s₁ B hml hv
  obtain ⟨rfl, hsz, hP, hK, hD0⟩ := hv
  have hx := B.exec
  have hb := B.bytes
  have hr := B.returns
  have hts := atoms_spec (ws := wsX4_edit) B.pre
  have hown : s.vm.findClass RX4 = some m.cls := findClass_of_methodNamed B.named
  have hlocks := B.notSynchronized
  have hinX4 : ∀ w ∈ wsX40, w ∈ wsX4_edit := fun _ h => List.mem_cons_of_mem _ (List.mem_append_right _ h)
  subst hsz
  have hD := hD0.self (sz := s.heap.size)
  generalize hAe : va_A (mW AB cI cZ _) s.heap.size = V at hD ⊢
  have hA : ∀ q : Nat, s.heap.size ≤ q → V q := fun q h => by rw [← hAe]; exact Or.inr h
  have hS : va_S V s.heap s.heap [] := va_S.rf
  have hl := lv_entry ([.ref (AB 0), .int i, .int x]) (n := 4) (Nat.le_of_ble_eq_true rfl)
  rw [lg_entry_eq]
  generalize (lg_sl ([.ref (AB 0), .int i, .int x]) ++ List.replicate (4 - (lg_sl ([.ref (AB 0), .int i, .int x])).length) Slot.unset).toArray = ls at hl ⊢
  have hl : lv_has ls 4 [(0, .ref (AB 0)), (1, .int i), (2, .int x)] := hl
  have hP : va_P (dC, dI) vwCl (mL AB cI cZ sc ar) s.heap := hP
  have hD : va_D V (mL AB cI cZ sc ar) := hD
  refine lv_aload_n hx hb dX4_edit_0 rfl (lv_at hl 0 rfl) ?_
  refine lv_iconst (v := 0) hx hb dX4_edit_1 (by decide) ?_
  refine va_put (D := (dC, dI)) (ci := 4) (v := .int 0) (ty := .int) (C := RX4) (T := TX4) (N := 33) hx hb hts hinX4 tyX4 tyX4_ok nmX4 hown hK hP hD hS 0 rfl rfl 0 (by decide) (hts _ (List.mem_of_getElem? (i := 1) rfl)) (fun _ h9 => h9) rfl (by decide +kernel) rfl rfl (Nat.le_of_ble_eq_true rfl) dX4_edit_2 (fun H locs hP hD hS => ?_)
  have hP : va_P (dC, dI) vwCl (mL AB cI cZ (va_up sc 0 0) ar) H := hP
  have hD : va_D V (mL AB cI cZ (va_up sc 0 0) ar) := hD
  refine lv_iload_n hx hb dX4_edit_5 rfl (lv_at hl 1 rfl) ?_
  refine lv_iconst (v := 0) hx hb dX4_edit_6 (by decide) ?_
  refine lv_aload_n hx hb dX4_edit_7 rfl (lv_at hl 0 rfl) ?_
  refine va_get (D := (dC, dI)) (ci := 4) (v := .int (sc 15)) (C := RX4) (T := TX4) (N := 33) hx hb hts hinX4 hown hK hP 0 rfl rfl 15 (by decide) (hts _ (List.mem_of_getElem? (i := 2) rfl)) (fun _ h9 => h9) rfl dX4_edit_8 ?_
  refine lv_iconst (v := 1) hx hb dX4_edit_11 (by decide) ?_
  refine lv_isub hx hb dX4_edit_12 ?_
  refine vp_callSi (W.runS (As := [.int i, .int 0, .int ((sc 15) - 1)]) (rest := []) ⟨hx, hb, hml, hown, hts⟩ (m_within l i 0 ((sc 15) - 1)) (va_cwS 3 hts gX4_edit_X4_within rfl rfl rfl (by decide +kernel) ⟨Nat.le_of_ble_eq_true rfl, Nat.le_of_ble_eq_true rfl⟩) ⟨bl_T, fun U hU hW => ⟨rfl, trivial⟩⟩ rfl rfl hl.1 rfl (lv_room (Nat.le_of_ble_eq_true rfl)) dX4_edit_13 ⟨Nat.zero_le _, Nat.zero_le _⟩) (fun r er => ?_)
  obtain rfl : r = b2i (wiB i 0 ((sc 15) - 1)) := er
  refine lv_if_eq (tgt := 29) hx hb dX4_edit_16 (by decide) (fun c16_0 => ?_) (fun c16_0 => ?_)
  · skip
    refine lv_aload_n hx hb dX4_edit_29 rfl (lv_at hl 0 rfl) ?_
    refine lv_iconst (v := 1) hx hb dX4_edit_30 (by decide) ?_
    have hFc := m_free (τ := (va_up sc 0 0, ar)) hD hS hA
    refine va_calli (va_runV (As := [.int 1]) (rest := []) ⟨hx, hb, hml, hown, hts⟩ (m_fail l dC dI AB cI cZ (va_up sc 0 0, ar) H.size 1) (cwV 1 hts gX4_edit_X4_fail rfl rfl rfl (by decide +kernel) ⟨Nat.le_of_ble_eq_true rfl, Nat.le_of_ble_eq_true rfl⟩) ⟨bm_F, va_recv hK hP (ci := 4) (q0 := 0) rfl rfl, fun U hU hW => ⟨rfl, by rw [hU], by rw [hU]; exact hP, va_K.moved hW.alike hK, hf_any hD⟩⟩ rfl rfl hl.1 rfl (lv_room (Nat.le_of_ble_eq_true rfl)) dX4_edit_31 ⟨Nat.zero_le _, Nat.zero_le _⟩) hS (fun q _ h => hFc q h) hFc (fun r u t H locs ht hvm hw hB hz1 hk1 hS => ?_)
    obtain ⟨hP1, hD1⟩ := hB
    rw [ht] at hP1
    obtain ⟨rfl, rfl⟩ := hw
    have hP : va_P (dC, dI) vwCl (mL AB cI cZ (va_up sc 0 1) ar) H := hP1
    have hD : va_D V (mL AB cI cZ (va_up sc 0 1) ar) := hf_weak hD1 hFc
    clear hP1 hD1 hFc
    exact W.iret hx hb hr (fun t ht hW => ⟨⟨_, (va_up sc 0 1, ar), rfl, ⟨rfl, rfl⟩, by rw [ht]; exact hP, hD⟩, hS.F ht⟩) hS.2.2 dX4_edit_34
  · skip
    refine lv_iload_n hx hb dX4_edit_19 rfl (lv_at hl 2 rfl) ?_
    refine lv_iconst (v := 0) hx hb dX4_edit_20 (by decide) ?_
    refine lv_bipush (v := 7) hx hb dX4_edit_21 (by decide) ?_
    refine vp_callSi (W.runS (As := [.int x, .int 0, .int 7]) (rest := []) ⟨hx, hb, hml, hown, hts⟩ (m_within l x 0 7) (va_cwS 3 hts gX4_edit_X4_within rfl rfl rfl (by decide +kernel) ⟨Nat.le_of_ble_eq_true rfl, Nat.le_of_ble_eq_true rfl⟩) ⟨bl_T, fun U hU hW => ⟨rfl, trivial⟩⟩ rfl rfl hl.1 rfl (lv_room (Nat.le_of_ble_eq_true rfl)) dX4_edit_23 ⟨Nat.zero_le _, Nat.zero_le _⟩) (fun r er => ?_)
    obtain rfl : r = b2i (wiB x 0 7) := er
    refine lv_if_ne (tgt := 35) hx hb dX4_edit_26 (by decide) (fun c26_1 => ?_) (fun c26_1 => ?_)
    · exact absurd h (by rw [show wiB i 0 ((sc, ar).1 15 - 1) = true from b2i_n0.mp c16_0, b2i_n0.mp c26_1]; decide)
    · skip
      refine lv_aload_n hx hb dX4_edit_29 rfl (lv_at hl 0 rfl) ?_
      refine lv_iconst (v := 1) hx hb dX4_edit_30 (by decide) ?_
      have hFc := m_free (τ := (va_up sc 0 0, ar)) hD hS hA
      refine va_calli (va_runV (As := [.int 1]) (rest := []) ⟨hx, hb, hml, hown, hts⟩ (m_fail l dC dI AB cI cZ (va_up sc 0 0, ar) H.size 1) (cwV 1 hts gX4_edit_X4_fail rfl rfl rfl (by decide +kernel) ⟨Nat.le_of_ble_eq_true rfl, Nat.le_of_ble_eq_true rfl⟩) ⟨bm_F, va_recv hK hP (ci := 4) (q0 := 0) rfl rfl, fun U hU hW => ⟨rfl, by rw [hU], by rw [hU]; exact hP, va_K.moved hW.alike hK, hf_any hD⟩⟩ rfl rfl hl.1 rfl (lv_room (Nat.le_of_ble_eq_true rfl)) dX4_edit_31 ⟨Nat.zero_le _, Nat.zero_le _⟩) hS (fun q _ h => hFc q h) hFc (fun r u t H locs ht hvm hw hB hz1 hk1 hS => ?_)
      obtain ⟨hP1, hD1⟩ := hB
      rw [ht] at hP1
      obtain ⟨rfl, rfl⟩ := hw
      have hP : va_P (dC, dI) vwCl (mL AB cI cZ (va_up sc 0 1) ar) H := hP1
      have hD : va_D V (mL AB cI cZ (va_up sc 0 1) ar) := hf_weak hD1 hFc
      clear hP1 hD1 hFc
      exact W.iret hx hb hr (fun t ht hW => ⟨⟨_, (va_up sc 0 1, ar), rfl, ⟨rfl, rfl⟩, by rw [ht]; exact hP, hD⟩, hS.F ht⟩) hS.2.2 dX4_edit_34
set_option maxHeartbeats 4000000 in
set_option maxRecDepth 100000 in
/-- edit 2 -/
theorem m_edit2 (l : Launch) (dC : Nat → ClassId) (dI : Nat → Nat → Nat) (AB : Nat → Nat) (cI cZ : ClassId) (τ : MS) (sz : Nat) {th : Nat → Bool} {ef : Nat → Nat} (hM : mok th ef τ) {a : Nat} (ha : a < 8) (i : Int32) (h1 : wiB i 0 (τ.1 15 - 1) = true) (h : th a = false) : Met l yX4_edit wsX4_edit ({ frames := 12, cells := 0, slots := 0, locals := 600 }) (va_Pc [.ref (AB 0), .int i, .int (nI a)] (mF dC dI AB cI cZ sz τ)) (va_Qi (fun (r : Int32) (τ2 : MS) => r = 0 ∧ τ2 = (va_up τ.1 0 2, τ.2)) (mB dC dI AB cI cZ (va_A (mW AB cI cZ τ) sz)) (va_A (mW AB cI cZ τ) sz)) 0 0 (va_A (mW AB cI cZ τ) sz) := by
  obtain ⟨sc, ar⟩ := τ
  refine Met.ofW (cc := cX4_edit) (maxL := 4) (ret := (some .int)) (by decide) rfl ?_
  intro p e s m args below meth c s₁ B hml hv
  obtain ⟨rfl, hsz, hP, hK, hD0⟩ := hv
  have hx := B.exec
  have hb := B.bytes
  have hr := B.returns
  have hts := atoms_spec (ws := wsX4_edit) B.pre
  have hown : s.vm.findClass RX4 = some m.cls := findClass_of_methodNamed B.named
  have hlocks := B.notSynchronized
  have hinX4 : ∀ w ∈ wsX40, w ∈ wsX4_edit := fun _ h => List.mem_cons_of_mem _ (List.mem_append_right _ h)
  subst hsz
  have hD := hD0.self (sz := s.heap.size)
  generalize hAe : va_A (mW AB cI cZ _) s.heap.size = V at hD ⊢
  have hA : ∀ q : Nat, s.heap.size ≤ q → V q := fun q h => by rw [← hAe]; exact Or.inr h
  have hS : va_S V s.heap s.heap [] := va_S.rf
  have hl := lv_entry ([.ref (AB 0), .int i, .int (nI a)]) (n := 4) (Nat.le_of_ble_eq_true rfl)
  rw [lg_entry_eq]
  generalize (lg_sl ([.ref (AB 0), .int i, .int (nI a)]) ++ List.replicate (4 - (lg_sl ([.ref (AB 0), .int i, .int (nI a)])).length) Slot.unset).toArray = ls at hl ⊢
  have hl : lv_has ls 4 [(0, .ref (AB 0)), (1, .int i), (2, .int (nI a))] := hl
  have hP : va_P (dC, dI) vwCl (mL AB cI cZ sc ar) s.heap := hP
  have hD : va_D V (mL AB cI cZ sc ar) := hD
  refine lv_aload_n hx hb dX4_edit_0 rfl (lv_at hl 0 rfl) ?_
  refine lv_iconst (v := 0) hx hb dX4_edit_1 (by decide) ?_
  refine va_put (D := (dC, dI)) (ci := 4) (v := .int 0) (ty := .int) (C := RX4) (T := TX4) (N := 33) hx hb hts hinX4 tyX4 tyX4_ok nmX4 hown hK hP hD hS 0 rfl rfl 0 (by decide) (hts _ (List.mem_of_getElem? (i := 1) rfl)) (fun _ h9 => h9) rfl (by decide +kernel) rfl rfl (Nat.le_of_ble_eq_true rfl) dX4_edit_2 (fun H locs hP hD hS => ?_)
  have hP : va_P (dC, dI) vwCl (mL AB cI cZ (va_up sc 0 0) ar) H := hP
  have hD : va_D V (mL AB cI cZ (va_up sc 0 0) ar) := hD
  refine lv_iload_n hx hb dX4_edit_5 rfl (lv_at hl 1 rfl) ?_
  refine lv_iconst (v := 0) hx hb dX4_edit_6 (by decide) ?_
  refine lv_aload_n hx hb dX4_edit_7 rfl (lv_at hl 0 rfl) ?_
  refine va_get (D := (dC, dI)) (ci := 4) (v := .int (sc 15)) (C := RX4) (T := TX4) (N := 33) hx hb hts hinX4 hown hK hP 0 rfl rfl 15 (by decide) (hts _ (List.mem_of_getElem? (i := 2) rfl)) (fun _ h9 => h9) rfl dX4_edit_8 ?_
  refine lv_iconst (v := 1) hx hb dX4_edit_11 (by decide) ?_
  refine lv_isub hx hb dX4_edit_12 ?_
  refine vp_callSi (W.runS (As := [.int i, .int 0, .int ((sc 15) - 1)]) (rest := []) ⟨hx, hb, hml, hown, hts⟩ (m_within l i 0 ((sc 15) - 1)) (va_cwS 3 hts gX4_edit_X4_within rfl rfl rfl (by decide +kernel) ⟨Nat.le_of_ble_eq_true rfl, Nat.le_of_ble_eq_true rfl⟩) ⟨bl_T, fun U hU hW => ⟨rfl, trivial⟩⟩ rfl rfl hl.1 rfl (lv_room (Nat.le_of_ble_eq_true rfl)) dX4_edit_13 ⟨Nat.zero_le _, Nat.zero_le _⟩) (fun r er => ?_)
  obtain rfl : r = b2i (wiB i 0 ((sc 15) - 1)) := er
  refine lv_if_eq (tgt := 29) hx hb dX4_edit_16 (by decide) (fun c16_0 => ?_) (fun c16_0 => ?_)
  · exact absurd ((b2i_0.mp c16_0).symm.trans h1) (by decide)
  · skip
    refine lv_iload_n hx hb dX4_edit_19 rfl (lv_at hl 2 rfl) ?_
    refine lv_iconst (v := 0) hx hb dX4_edit_20 (by decide) ?_
    refine lv_bipush (v := 7) hx hb dX4_edit_21 (by decide) ?_
    refine vp_callSi (W.runS (As := [.int (nI a), .int 0, .int 7]) (rest := []) ⟨hx, hb, hml, hown, hts⟩ (m_within l (nI a) 0 7) (va_cwS 3 hts gX4_edit_X4_within rfl rfl rfl (by decide +kernel) ⟨Nat.le_of_ble_eq_true rfl, Nat.le_of_ble_eq_true rfl⟩) ⟨bl_T, fun U hU hW => ⟨rfl, trivial⟩⟩ rfl rfl hl.1 rfl (lv_room (Nat.le_of_ble_eq_true rfl)) dX4_edit_23 ⟨Nat.zero_le _, Nat.zero_le _⟩) (fun r er => ?_)
    obtain rfl : r = b2i (wiB (nI a) 0 7) := er
    refine lv_if_ne (tgt := 35) hx hb dX4_edit_26 (by decide) (fun c26_1 => ?_) (fun c26_1 => ?_)
    · skip
      refine lv_aload_n hx hb dX4_edit_35 rfl (lv_at hl 0 rfl) ?_
      refine va_get (D := (dC, dI)) (ci := 4) (v := .ref (AB 1)) (C := RX4) (T := TX4) (N := 33) hx hb hts hinX4 hown hK hP 0 rfl rfl 1 (by decide) (hts _ (List.mem_of_getElem? (i := 3) rfl)) (fun _ h9 => h9) rfl dX4_edit_36 ?_
      refine lv_iload_n hx hb dX4_edit_39 rfl (lv_at hl 2 rfl) ?_
      refine va_zald hx hb hK hP 1 1 rfl rfl (vp_in_nI (show a < 8 by omega) (by decide)) dX4_edit_40 ?_
      rw [nI_clamp (show a < 2 ^ 31 by have := (show a < 8 by omega); omega)]
      refine lv_topi (fun y2 ey2 => ?_)
      obtain rfl : y2 = b2i (th a) := ey2.trans ((hM a ha).1)
      refine lv_if_ne (tgt := 50) hx hb dX4_edit_41 (by decide) (fun c41_3 => ?_) (fun c41_3 => ?_)
      · exact absurd ((b2i_n0.mp c41_3).symm.trans h) (by decide)
      · skip
        refine lv_aload_n hx hb dX4_edit_44 rfl (lv_at hl 0 rfl) ?_
        refine lv_iconst (v := 2) hx hb dX4_edit_45 (by decide) ?_
        have hFc := m_free (τ := (va_up sc 0 0, ar)) hD hS hA
        refine va_calli (va_runV (As := [.int 2]) (rest := []) ⟨hx, hb, hml, hown, hts⟩ (m_fail l dC dI AB cI cZ (va_up sc 0 0, ar) H.size 2) (cwV 1 hts gX4_edit_X4_fail rfl rfl rfl (by decide +kernel) ⟨Nat.le_of_ble_eq_true rfl, Nat.le_of_ble_eq_true rfl⟩) ⟨bm_F, va_recv hK hP (ci := 4) (q0 := 0) rfl rfl, fun U hU hW => ⟨rfl, by rw [hU], by rw [hU]; exact hP, va_K.moved hW.alike hK, hf_any hD⟩⟩ rfl rfl hl.1 rfl (lv_room (Nat.le_of_ble_eq_true rfl)) dX4_edit_46 ⟨Nat.zero_le _, Nat.zero_le _⟩) hS (fun q _ h => hFc q h) hFc (fun r u t H locs ht hvm hw hB hz1 hk1 hS => ?_)
        obtain ⟨hP1, hD1⟩ := hB
        rw [ht] at hP1
        obtain ⟨rfl, rfl⟩ := hw
        have hP : va_P (dC, dI) vwCl (mL AB cI cZ (va_up sc 0 2) ar) H := hP1
        have hD : va_D V (mL AB cI cZ (va_up sc 0 2) ar) := hf_weak hD1 hFc
        clear hP1 hD1 hFc
        exact W.iret hx hb hr (fun t ht hW => ⟨⟨_, (va_up sc 0 2, ar), rfl, ⟨rfl, rfl⟩, by rw [ht]; exact hP, hD⟩, hS.F ht⟩) hS.2.2 dX4_edit_49
    · exact absurd ((b2i_0.mp c26_1).symm.trans (wi_nat (n := 7) (k := a) (by omega) (by decide))) (by decide)
set_option maxHeartbeats 4000000 in
set_option maxRecDepth 100000 in
/-- edit 3 -/
theorem m_edit3 (l : Launch) (dC : Nat → ClassId) (dI : Nat → Nat → Nat) (AB : Nat → Nat) (cI cZ : ClassId) (τ : MS) (sz : Nat) {th : Nat → Bool} {ef : Nat → Nat} (hM : mok th ef τ) {a : Nat} (ha : a < 8) {i : Nat} (hi : i < 31) (h1 : wiB (nI i) 0 (τ.1 15 - 1) = true) (h2 : th a = true) (h : τ.2 16 i < 0) : Met l yX4_edit wsX4_edit ({ frames := 12, cells := 0, slots := 0, locals := 600 }) (va_Pc [.ref (AB 0), .int (nI i), .int (nI a)] (mF dC dI AB cI cZ sz τ)) (va_Qi (fun (r : Int32) (τ2 : MS) => r = 0 ∧ τ2 = (va_up τ.1 0 3, τ.2)) (mB dC dI AB cI cZ (va_A (mW AB cI cZ τ) sz)) (va_A (mW AB cI cZ τ) sz)) 0 0 (va_A (mW AB cI cZ τ) sz) := by
  obtain ⟨sc, ar⟩ := τ
  refine Met.ofW (cc := cX4_edit) (maxL := 4) (ret := (some .int)) (by decide) rfl ?_
  intro p e s m args below meth c s₁ B hml hv
  obtain ⟨rfl, hsz, hP, hK, hD0⟩ := hv
  have hx := B.exec
  have hb := B.bytes
  have hr := B.returns
  have hts := atoms_spec (ws := wsX4_edit) B.pre
  have hown : s.vm.findClass RX4 = some m.cls := findClass_of_methodNamed B.named
  have hlocks := B.notSynchronized
  have hinX4 : ∀ w ∈ wsX40, w ∈ wsX4_edit := fun _ h => List.mem_cons_of_mem _ (List.mem_append_right _ h)
  subst hsz
  have hD := hD0.self (sz := s.heap.size)
  generalize hAe : va_A (mW AB cI cZ _) s.heap.size = V at hD ⊢
  have hA : ∀ q : Nat, s.heap.size ≤ q → V q := fun q h => by rw [← hAe]; exact Or.inr h
  have hS : va_S V s.heap s.heap [] := va_S.rf
  have hl := lv_entry ([.ref (AB 0), .int (nI i), .int (nI a)]) (n := 4) (Nat.le_of_ble_eq_true rfl)
  rw [lg_entry_eq]
  generalize (lg_sl ([.ref (AB 0), .int (nI i), .int (nI a)]) ++ List.replicate (4 - (lg_sl ([.ref (AB 0), .int (nI i), .int (nI a)])).length) Slot.unset).toArray = ls at hl ⊢
  have hl : lv_has ls 4 [(0, .ref (AB 0)), (1, .int (nI i)), (2, .int (nI a))] := hl
  have hP : va_P (dC, dI) vwCl (mL AB cI cZ sc ar) s.heap := hP
  have hD : va_D V (mL AB cI cZ sc ar) := hD
  refine lv_aload_n hx hb dX4_edit_0 rfl (lv_at hl 0 rfl) ?_
  refine lv_iconst (v := 0) hx hb dX4_edit_1 (by decide) ?_
  refine va_put (D := (dC, dI)) (ci := 4) (v := .int 0) (ty := .int) (C := RX4) (T := TX4) (N := 33) hx hb hts hinX4 tyX4 tyX4_ok nmX4 hown hK hP hD hS 0 rfl rfl 0 (by decide) (hts _ (List.mem_of_getElem? (i := 1) rfl)) (fun _ h9 => h9) rfl (by decide +kernel) rfl rfl (Nat.le_of_ble_eq_true rfl) dX4_edit_2 (fun H locs hP hD hS => ?_)
  have hP : va_P (dC, dI) vwCl (mL AB cI cZ (va_up sc 0 0) ar) H := hP
  have hD : va_D V (mL AB cI cZ (va_up sc 0 0) ar) := hD
  refine lv_iload_n hx hb dX4_edit_5 rfl (lv_at hl 1 rfl) ?_
  refine lv_iconst (v := 0) hx hb dX4_edit_6 (by decide) ?_
  refine lv_aload_n hx hb dX4_edit_7 rfl (lv_at hl 0 rfl) ?_
  refine va_get (D := (dC, dI)) (ci := 4) (v := .int (sc 15)) (C := RX4) (T := TX4) (N := 33) hx hb hts hinX4 hown hK hP 0 rfl rfl 15 (by decide) (hts _ (List.mem_of_getElem? (i := 2) rfl)) (fun _ h9 => h9) rfl dX4_edit_8 ?_
  refine lv_iconst (v := 1) hx hb dX4_edit_11 (by decide) ?_
  refine lv_isub hx hb dX4_edit_12 ?_
  refine vp_callSi (W.runS (As := [.int (nI i), .int 0, .int ((sc 15) - 1)]) (rest := []) ⟨hx, hb, hml, hown, hts⟩ (m_within l (nI i) 0 ((sc 15) - 1)) (va_cwS 3 hts gX4_edit_X4_within rfl rfl rfl (by decide +kernel) ⟨Nat.le_of_ble_eq_true rfl, Nat.le_of_ble_eq_true rfl⟩) ⟨bl_T, fun U hU hW => ⟨rfl, trivial⟩⟩ rfl rfl hl.1 rfl (lv_room (Nat.le_of_ble_eq_true rfl)) dX4_edit_13 ⟨Nat.zero_le _, Nat.zero_le _⟩) (fun r er => ?_)
  obtain rfl : r = b2i (wiB (nI i) 0 ((sc 15) - 1)) := er
  refine lv_if_eq (tgt := 29) hx hb dX4_edit_16 (by decide) (fun c16_0 => ?_) (fun c16_0 => ?_)
  · exact absurd ((b2i_0.mp c16_0).symm.trans h1) (by decide)
  · skip
    refine lv_iload_n hx hb dX4_edit_19 rfl (lv_at hl 2 rfl) ?_
    refine lv_iconst (v := 0) hx hb dX4_edit_20 (by decide) ?_
    refine lv_bipush (v := 7) hx hb dX4_edit_21 (by decide) ?_
    refine vp_callSi (W.runS (As := [.int (nI a), .int 0, .int 7]) (rest := []) ⟨hx, hb, hml, hown, hts⟩ (m_within l (nI a) 0 7) (va_cwS 3 hts gX4_edit_X4_within rfl rfl rfl (by decide +kernel) ⟨Nat.le_of_ble_eq_true rfl, Nat.le_of_ble_eq_true rfl⟩) ⟨bl_T, fun U hU hW => ⟨rfl, trivial⟩⟩ rfl rfl hl.1 rfl (lv_room (Nat.le_of_ble_eq_true rfl)) dX4_edit_23 ⟨Nat.zero_le _, Nat.zero_le _⟩) (fun r er => ?_)
    obtain rfl : r = b2i (wiB (nI a) 0 7) := er
    refine lv_if_ne (tgt := 35) hx hb dX4_edit_26 (by decide) (fun c26_1 => ?_) (fun c26_1 => ?_)
    · skip
      refine lv_aload_n hx hb dX4_edit_35 rfl (lv_at hl 0 rfl) ?_
      refine va_get (D := (dC, dI)) (ci := 4) (v := .ref (AB 1)) (C := RX4) (T := TX4) (N := 33) hx hb hts hinX4 hown hK hP 0 rfl rfl 1 (by decide) (hts _ (List.mem_of_getElem? (i := 3) rfl)) (fun _ h9 => h9) rfl dX4_edit_36 ?_
      refine lv_iload_n hx hb dX4_edit_39 rfl (lv_at hl 2 rfl) ?_
      refine va_zald hx hb hK hP 1 1 rfl rfl (vp_in_nI (show a < 8 by omega) (by decide)) dX4_edit_40 ?_
      rw [nI_clamp (show a < 2 ^ 31 by have := (show a < 8 by omega); omega)]
      refine lv_topi (fun y2 ey2 => ?_)
      obtain rfl : y2 = b2i (th a) := ey2.trans ((hM a ha).1)
      refine lv_if_ne (tgt := 50) hx hb dX4_edit_41 (by decide) (fun c41_3 => ?_) (fun c41_3 => ?_)
      · skip
        refine lv_aload_n hx hb dX4_edit_50 rfl (lv_at hl 0 rfl) ?_
        refine va_get (D := (dC, dI)) (ci := 4) (v := .ref (AB 16)) (C := RX4) (T := TX4) (N := 33) hx hb hts hinX4 hown hK hP 0 rfl rfl 16 (by decide) (hts _ (List.mem_of_getElem? (i := 4) rfl)) (fun _ h9 => h9) rfl dX4_edit_51 ?_
        refine lv_iload_n hx hb dX4_edit_54 rfl (lv_at hl 1 rfl) ?_
        refine va_iald hx hb hK hP 12 0 rfl rfl (vp_in_nI (show i < 32 by omega) (by decide)) dX4_edit_55 ?_
        rw [nI_clamp (show i < 2 ^ 31 by have := (show i < 32 by omega); omega)]
        refine lv_if_ge (tgt := 65) hx hb dX4_edit_56 (by decide) (fun c56_4 => ?_) (fun c56_4 => ?_)
        · exact absurd h (Int32.not_lt.mpr c56_4)
        · skip
          refine lv_aload_n hx hb dX4_edit_59 rfl (lv_at hl 0 rfl) ?_
          refine lv_iconst (v := 3) hx hb dX4_edit_60 (by decide) ?_
          have hFc := m_free (τ := (va_up sc 0 0, ar)) hD hS hA
          refine va_calli (va_runV (As := [.int 3]) (rest := []) ⟨hx, hb, hml, hown, hts⟩ (m_fail l dC dI AB cI cZ (va_up sc 0 0, ar) H.size 3) (cwV 1 hts gX4_edit_X4_fail rfl rfl rfl (by decide +kernel) ⟨Nat.le_of_ble_eq_true rfl, Nat.le_of_ble_eq_true rfl⟩) ⟨bm_F, va_recv hK hP (ci := 4) (q0 := 0) rfl rfl, fun U hU hW => ⟨rfl, by rw [hU], by rw [hU]; exact hP, va_K.moved hW.alike hK, hf_any hD⟩⟩ rfl rfl hl.1 rfl (lv_room (Nat.le_of_ble_eq_true rfl)) dX4_edit_61 ⟨Nat.zero_le _, Nat.zero_le _⟩) hS (fun q _ h => hFc q h) hFc (fun r u t H locs ht hvm hw hB hz1 hk1 hS => ?_)
          obtain ⟨hP1, hD1⟩ := hB
          rw [ht] at hP1
          obtain ⟨rfl, rfl⟩ := hw
          have hP : va_P (dC, dI) vwCl (mL AB cI cZ (va_up sc 0 3) ar) H := hP1
          have hD : va_D V (mL AB cI cZ (va_up sc 0 3) ar) := hf_weak hD1 hFc
          clear hP1 hD1 hFc
          exact W.iret hx hb hr (fun t ht hW => ⟨⟨_, (va_up sc 0 3, ar), rfl, ⟨rfl, rfl⟩, by rw [ht]; exact hP, hD⟩, hS.F ht⟩) hS.2.2 dX4_edit_64
      · exact absurd ((b2i_0.mp c41_3).symm.trans h2) (by decide)
    · exact absurd ((b2i_0.mp c26_1).symm.trans (wi_nat (n := 7) (k := a) (by omega) (by decide))) (by decide)
set_option maxHeartbeats 4000000 in
set_option maxRecDepth 100000 in
/-- edit 0 -/
theorem m_edit0 (l : Launch) (dC : Nat → ClassId) (dI : Nat → Nat → Nat) (AB : Nat → Nat) (cI cZ : ClassId) (τ : MS) (sz : Nat) {th : Nat → Bool} {ef : Nat → Nat} (hM : mok th ef τ) {a : Nat} (ha : a < 8) {i : Nat} (hi : i < 31) (h1 : wiB (nI i) 0 (τ.1 15 - 1) = true) (h2 : th a = true) (h : ¬ τ.2 16 i < 0) : Met l yX4_edit wsX4_edit ({ frames := 12, cells := 0, slots := 0, locals := 600 }) (va_Pc [.ref (AB 0), .int (nI i), .int (nI a)] (mF dC dI AB cI cZ sz τ)) (va_Qi (fun (r : Int32) (τ2 : MS) => r = τ.2 16 i ∧ τ2 = (va_up τ.1 0 0, va_up τ.2 16 (upd (τ.2 16) i (nI a)))) (mB dC dI AB cI cZ (va_A (mW AB cI cZ τ) sz)) (va_A (mW AB cI cZ τ) sz)) 0 0 (va_A (mW AB cI cZ τ) sz) := by
  obtain ⟨sc, ar⟩ := τ
  refine Met.ofW (cc := cX4_edit) (maxL := 4) (ret := (some .int)) (by decide) rfl ?_
  intro p e s m args below meth c s₁ B hml hv
  obtain ⟨rfl, hsz, hP, hK, hD0⟩ := hv
  have hx := B.exec
  have hb := B.bytes
  have hr := B.returns
  have hts := atoms_spec (ws := wsX4_edit) B.pre
  have hown : s.vm.findClass RX4 = some m.cls := findClass_of_methodNamed B.named
  have hlocks := B.notSynchronized
  have hinX4 : ∀ w ∈ wsX40, w ∈ wsX4_edit := fun _ h => List.mem_cons_of_mem _ (List.mem_append_right _ h)
  subst hsz
  have hD := hD0.self (sz := s.heap.size)
  generalize hAe : va_A (mW AB cI cZ _) s.heap.size = V at hD ⊢
  have hA : ∀ q : Nat, s.heap.size ≤ q → V q := fun q h => by rw [← hAe]; exact Or.inr h
  have hS : va_S V s.heap s.heap [] := va_S.rf
  have hl := lv_entry ([.ref (AB 0), .int (nI i), .int (nI a)]) (n := 4) (Nat.le_of_ble_eq_true rfl)
  rw [lg_entry_eq]
  generalize (lg_sl ([.ref (AB 0), .int (nI i), .int (nI a)]) ++ List.replicate (4 - (lg_sl ([.ref (AB 0), .int (nI i), .int (nI a)])).length) Slot.unset).toArray = ls at hl ⊢
  have hl : lv_has ls 4 [(0, .ref (AB 0)), (1, .int (nI i)), (2, .int (nI a))] := hl
  have hP : va_P (dC, dI) vwCl (mL AB cI cZ sc ar) s.heap := hP
  have hD : va_D V (mL AB cI cZ sc ar) := hD
  refine lv_aload_n hx hb dX4_edit_0 rfl (lv_at hl 0 rfl) ?_
  refine lv_iconst (v := 0) hx hb dX4_edit_1 (by decide) ?_
  refine va_put (D := (dC, dI)) (ci := 4) (v := .int 0) (ty := .int) (C := RX4) (T := TX4) (N := 33) hx hb hts hinX4 tyX4 tyX4_ok nmX4 hown hK hP hD hS 0 rfl rfl 0 (by decide) (hts _ (List.mem_of_getElem? (i := 1) rfl)) (fun _ h9 => h9) rfl (by decide +kernel) rfl rfl (Nat.le_of_ble_eq_true rfl) dX4_edit_2 (fun H locs hP hD hS => ?_)
  have hP : va_P (dC, dI) vwCl (mL AB cI cZ (va_up sc 0 0) ar) H := hP
  have hD : va_D V (mL AB cI cZ (va_up sc 0 0) ar) := hD
  refine lv_iload_n hx hb dX4_edit_5 rfl (lv_at hl 1 rfl) ?_
  refine lv_iconst (v := 0) hx hb dX4_edit_6 (by decide) ?_
  refine lv_aload_n hx hb dX4_edit_7 rfl (lv_at hl 0 rfl) ?_
  refine va_get (D := (dC, dI)) (ci := 4) (v := .int (sc 15)) (C := RX4) (T := TX4) (N := 33) hx hb hts hinX4 hown hK hP 0 rfl rfl 15 (by decide) (hts _ (List.mem_of_getElem? (i := 2) rfl)) (fun _ h9 => h9) rfl dX4_edit_8 ?_
  refine lv_iconst (v := 1) hx hb dX4_edit_11 (by decide) ?_
  refine lv_isub hx hb dX4_edit_12 ?_
  refine vp_callSi (W.runS (As := [.int (nI i), .int 0, .int ((sc 15) - 1)]) (rest := []) ⟨hx, hb, hml, hown, hts⟩ (m_within l (nI i) 0 ((sc 15) - 1)) (va_cwS 3 hts gX4_edit_X4_within rfl rfl rfl (by decide +kernel) ⟨Nat.le_of_ble_eq_true rfl, Nat.le_of_ble_eq_true rfl⟩) ⟨bl_T, fun U hU hW => ⟨rfl, trivial⟩⟩ rfl rfl hl.1 rfl (lv_room (Nat.le_of_ble_eq_true rfl)) dX4_edit_13 ⟨Nat.zero_le _, Nat.zero_le _⟩) (fun r er => ?_)
  obtain rfl : r = b2i (wiB (nI i) 0 ((sc 15) - 1)) := er
  refine lv_if_eq (tgt := 29) hx hb dX4_edit_16 (by decide) (fun c16_0 => ?_) (fun c16_0 => ?_)
  · exact absurd ((b2i_0.mp c16_0).symm.trans h1) (by decide)
  · skip
    refine lv_iload_n hx hb dX4_edit_19 rfl (lv_at hl 2 rfl) ?_
    refine lv_iconst (v := 0) hx hb dX4_edit_20 (by decide) ?_
    refine lv_bipush (v := 7) hx hb dX4_edit_21 (by decide) ?_
    refine vp_callSi (W.runS (As := [.int (nI a), .int 0, .int 7]) (rest := []) ⟨hx, hb, hml, hown, hts⟩ (m_within l (nI a) 0 7) (va_cwS 3 hts gX4_edit_X4_within rfl rfl rfl (by decide +kernel) ⟨Nat.le_of_ble_eq_true rfl, Nat.le_of_ble_eq_true rfl⟩) ⟨bl_T, fun U hU hW => ⟨rfl, trivial⟩⟩ rfl rfl hl.1 rfl (lv_room (Nat.le_of_ble_eq_true rfl)) dX4_edit_23 ⟨Nat.zero_le _, Nat.zero_le _⟩) (fun r er => ?_)
    obtain rfl : r = b2i (wiB (nI a) 0 7) := er
    refine lv_if_ne (tgt := 35) hx hb dX4_edit_26 (by decide) (fun c26_1 => ?_) (fun c26_1 => ?_)
    · skip
      refine lv_aload_n hx hb dX4_edit_35 rfl (lv_at hl 0 rfl) ?_
      refine va_get (D := (dC, dI)) (ci := 4) (v := .ref (AB 1)) (C := RX4) (T := TX4) (N := 33) hx hb hts hinX4 hown hK hP 0 rfl rfl 1 (by decide) (hts _ (List.mem_of_getElem? (i := 3) rfl)) (fun _ h9 => h9) rfl dX4_edit_36 ?_
      refine lv_iload_n hx hb dX4_edit_39 rfl (lv_at hl 2 rfl) ?_
      refine va_zald hx hb hK hP 1 1 rfl rfl (vp_in_nI (show a < 8 by omega) (by decide)) dX4_edit_40 ?_
      rw [nI_clamp (show a < 2 ^ 31 by have := (show a < 8 by omega); omega)]
      refine lv_topi (fun y2 ey2 => ?_)
      obtain rfl : y2 = b2i (th a) := ey2.trans ((hM a ha).1)
      refine lv_if_ne (tgt := 50) hx hb dX4_edit_41 (by decide) (fun c41_3 => ?_) (fun c41_3 => ?_)
      · skip
        refine lv_aload_n hx hb dX4_edit_50 rfl (lv_at hl 0 rfl) ?_
        refine va_get (D := (dC, dI)) (ci := 4) (v := .ref (AB 16)) (C := RX4) (T := TX4) (N := 33) hx hb hts hinX4 hown hK hP 0 rfl rfl 16 (by decide) (hts _ (List.mem_of_getElem? (i := 4) rfl)) (fun _ h9 => h9) rfl dX4_edit_51 ?_
        refine lv_iload_n hx hb dX4_edit_54 rfl (lv_at hl 1 rfl) ?_
        refine va_iald hx hb hK hP 12 0 rfl rfl (vp_in_nI (show i < 32 by omega) (by decide)) dX4_edit_55 ?_
        rw [nI_clamp (show i < 2 ^ 31 by have := (show i < 32 by omega); omega)]
        refine lv_if_ge (tgt := 65) hx hb dX4_edit_56 (by decide) (fun c56_4 => ?_) (fun c56_4 => ?_)
        · skip
          refine lv_aload_n hx hb dX4_edit_65 rfl (lv_at hl 0 rfl) ?_
          refine va_get (D := (dC, dI)) (ci := 4) (v := .ref (AB 16)) (C := RX4) (T := TX4) (N := 33) hx hb hts hinX4 hown hK hP 0 rfl rfl 16 (by decide) (hts _ (List.mem_of_getElem? (i := 4) rfl)) (fun _ h9 => h9) rfl dX4_edit_66 ?_
          refine lv_iload_n hx hb dX4_edit_69 rfl (lv_at hl 1 rfl) ?_
          refine va_iald hx hb hK hP 12 0 rfl rfl (vp_in_nI (show i < 32 by omega) (by decide)) dX4_edit_70 ?_
          rw [nI_clamp (show i < 2 ^ 31 by have := (show i < 32 by omega); omega)]
          refine lv_istore_n (lv' := [(3, .int (ar 16 i)), (0, .ref (AB 0)), (1, .int (nI i)), (2, .int (nI a))]) hx hb dX4_edit_71 rfl hl (by decide) rfl (fun ls hl => ?_)
          refine lv_aload_n hx hb dX4_edit_72 rfl (lv_at hl 1 rfl) ?_
          refine va_get (D := (dC, dI)) (ci := 4) (v := .ref (AB 16)) (C := RX4) (T := TX4) (N := 33) hx hb hts hinX4 hown hK hP 0 rfl rfl 16 (by decide) (hts _ (List.mem_of_getElem? (i := 4) rfl)) (fun _ h9 => h9) rfl dX4_edit_73 ?_
          refine lv_iload_n hx hb dX4_edit_76 rfl (lv_at hl 2 rfl) ?_
          refine lv_iload_n hx hb dX4_edit_77 rfl (lv_at hl 3 rfl) ?_
          refine va_iast hx hb hK hP hD hS 12 0 rfl rfl (vp_in_nI (show i < 32 by omega) (by decide)) dX4_edit_78 (fun H locs hP hD hS => ?_)
          rw [nI_clamp (show i < 2 ^ 31 by have := (show i < 32 by omega); omega)] at hP hD
          have hP : va_P (dC, dI) vwCl (mL AB cI cZ (va_up sc 0 0) (va_up ar 16 (upd (ar 16) i (nI a)))) H := hP
          have hD : va_D V (mL AB cI cZ (va_up sc 0 0) (va_up ar 16 (upd (ar 16) i (nI a)))) := hD
          refine lv_iload_n hx hb dX4_edit_79 rfl (lv_at hl 0 rfl) ?_
          exact W.iret hx hb hr (fun t ht hW => ⟨⟨_, (va_up sc 0 0, va_up ar 16 (upd (ar 16) i (nI a))), rfl, ⟨rfl, rfl⟩, by rw [ht]; exact hP, hD⟩, hS.F ht⟩) hS.2.2 dX4_edit_80
        · exact absurd (Int32.not_le.mp c56_4) h
      · exact absurd ((b2i_0.mp c41_3).symm.trans h2) (by decide)
    · exact absurd ((b2i_0.mp c26_1).symm.trans (wi_nat (n := 7) (k := a) (by omega) (by decide))) (by decide)
set_option maxHeartbeats 4000000 in
set_option maxRecDepth 100000 in
/-- hide 1 -/
theorem m_hide1 (l : Launch) (dC : Nat → ClassId) (dI : Nat → Nat → Nat) (AB : Nat → Nat) (cI cZ : ClassId) (τ : MS) (sz : Nat) (x : Int32) (h : wiB x 0 15 = false) : Met l yX4_hide wsX4_hide ({ frames := 12, cells := 0, slots := 0, locals := 600 }) (va_Pc [.ref (AB 0), .int x] (mF dC dI AB cI cZ sz τ)) (va_Qi (fun (r : Int32) (τ2 : MS) => r = 0 ∧ τ2 = (va_up τ.1 0 1, τ.2)) (mB dC dI AB cI cZ (va_A (mW AB cI cZ τ) sz)) (va_A (mW AB cI cZ τ) sz)) 0 0 (va_A (mW AB cI cZ τ) sz) := by
  obtain ⟨sc, ar⟩ := τ
  refine Met.ofW (cc := cX4_hide) (maxL := 2) (ret := (some .boolean)) (by decide) rfl ?_
  intro p e s m args below meth c s₁ B hml hv
  obtain ⟨rfl, hsz, hP, hK, hD0⟩ := hv
  have hx := B.exec
  have hb := B.bytes
  have hr := B.returns
  have hts := atoms_spec (ws := wsX4_hide) B.pre
  have hown : s.vm.findClass RX4 = some m.cls := findClass_of_methodNamed B.named
  have hlocks := B.notSynchronized
  have hinX4 : ∀ w ∈ wsX40, w ∈ wsX4_hide := fun _ h => List.mem_cons_of_mem _ (List.mem_append_right _ h)
  subst hsz
  have hD := hD0.self (sz := s.heap.size)
  generalize hAe : va_A (mW AB cI cZ _) s.heap.size = V at hD ⊢
  have hA : ∀ q : Nat, s.heap.size ≤ q → V q := fun q h => by rw [← hAe]; exact Or.inr h
  have hS : va_S V s.heap s.heap [] := va_S.rf
  have hl := lv_entry ([.ref (AB 0), .int x]) (n := 2) (Nat.le_of_ble_eq_true rfl)
  rw [lg_entry_eq]
  generalize (lg_sl ([.ref (AB 0), .int x]) ++ List.replicate (2 - (lg_sl ([.ref (AB 0), .int x])).length) Slot.unset).toArray = ls at hl ⊢
  have hl : lv_has ls 2 [(0, .ref (AB 0)), (1, .int x)] := hl
  have hP : va_P (dC, dI) vwCl (mL AB cI cZ sc ar) s.heap := hP
  have hD : va_D V (mL AB cI cZ sc ar) := hD
  refine lv_aload_n hx hb dX4_hide_0 rfl (lv_at hl 0 rfl) ?_
  refine lv_iconst (v := 0) hx hb dX4_hide_1 (by decide) ?_
  refine va_put (D := (dC, dI)) (ci := 4) (v := .int 0) (ty := .int) (C := RX4) (T := TX4) (N := 33) hx hb hts hinX4 tyX4 tyX4_ok nmX4 hown hK hP hD hS 0 rfl rfl 0 (by decide) (hts _ (List.mem_of_getElem? (i := 1) rfl)) (fun _ h9 => h9) rfl (by decide +kernel) rfl rfl (Nat.le_of_ble_eq_true rfl) dX4_hide_2 (fun H locs hP hD hS => ?_)
  have hP : va_P (dC, dI) vwCl (mL AB cI cZ (va_up sc 0 0) ar) H := hP
  have hD : va_D V (mL AB cI cZ (va_up sc 0 0) ar) := hD
  refine lv_iload_n hx hb dX4_hide_5 rfl (lv_at hl 1 rfl) ?_
  refine lv_iconst (v := 0) hx hb dX4_hide_6 (by decide) ?_
  refine lv_bipush (v := 15) hx hb dX4_hide_7 (by decide) ?_
  refine vp_callSi (W.runS (As := [.int x, .int 0, .int 15]) (rest := []) ⟨hx, hb, hml, hown, hts⟩ (m_within l x 0 15) (va_cwS 3 hts gX4_hide_X4_within rfl rfl rfl (by decide +kernel) ⟨Nat.le_of_ble_eq_true rfl, Nat.le_of_ble_eq_true rfl⟩) ⟨bl_T, fun U hU hW => ⟨rfl, trivial⟩⟩ rfl rfl hl.1 rfl (lv_room (Nat.le_of_ble_eq_true rfl)) dX4_hide_9 ⟨Nat.zero_le _, Nat.zero_le _⟩) (fun r er => ?_)
  obtain rfl : r = b2i (wiB x 0 15) := er
  refine lv_if_ne (tgt := 29) hx hb dX4_hide_12 (by decide) (fun c12_0 => ?_) (fun c12_0 => ?_)
  · exact absurd ((b2i_n0.mp c12_0).symm.trans h) (by decide)
  · skip
    refine lv_aload_n hx hb dX4_hide_15 rfl (lv_at hl 0 rfl) ?_
    refine lv_iconst (v := 1) hx hb dX4_hide_16 (by decide) ?_
    have hFc := m_free (τ := (va_up sc 0 0, ar)) hD hS hA
    refine va_calli (va_runV (As := [.int 1]) (rest := []) ⟨hx, hb, hml, hown, hts⟩ (m_fail l dC dI AB cI cZ (va_up sc 0 0, ar) H.size 1) (cwV 1 hts gX4_hide_X4_fail rfl rfl rfl (by decide +kernel) ⟨Nat.le_of_ble_eq_true rfl, Nat.le_of_ble_eq_true rfl⟩) ⟨bm_F, va_recv hK hP (ci := 4) (q0 := 0) rfl rfl, fun U hU hW => ⟨rfl, by rw [hU], by rw [hU]; exact hP, va_K.moved hW.alike hK, hf_any hD⟩⟩ rfl rfl hl.1 rfl (lv_room (Nat.le_of_ble_eq_true rfl)) dX4_hide_17 ⟨Nat.zero_le _, Nat.zero_le _⟩) hS (fun q _ h => hFc q h) hFc (fun r u t H locs ht hvm hw hB hz1 hk1 hS => ?_)
    obtain ⟨hP1, hD1⟩ := hB
    rw [ht] at hP1
    obtain ⟨rfl, rfl⟩ := hw
    have hP : va_P (dC, dI) vwCl (mL AB cI cZ (va_up sc 0 1) ar) H := hP1
    have hD : va_D V (mL AB cI cZ (va_up sc 0 1) ar) := hf_weak hD1 hFc
    clear hP1 hD1 hFc
    refine lv_if_le (tgt := 27) hx hb dX4_hide_20 (by decide) (fun c20_1 => ?_) (fun c20_1 => ?_)
    · skip
      refine lv_iconst (v := 0) hx hb dX4_hide_27 (by decide) ?_
      exact W.zret hx hb hr rfl (fun t ht hW => ⟨⟨_, (va_up sc 0 1, ar), rfl, ⟨rfl, rfl⟩, by rw [ht]; exact hP, hD⟩, hS.F ht⟩) hS.2.2 dX4_hide_28
    · exact absurd (by decide) c20_1
set_option maxHeartbeats 4000000 in
set_option maxRecDepth 100000 in
/-- hide 0 -/
theorem m_hide0 (l : Launch) (dC : Nat → ClassId) (dI : Nat → Nat → Nat) (AB : Nat → Nat) (cI cZ : ClassId) (τ : MS) (sz : Nat) {C : Nat} (hC : τ.1 10 = nI C) (hC6 : C ≤ 6) {k : Nat} (hk : k < 16) : Met l yX4_hide wsX4_hide ({ frames := 12, cells := 0, slots := 0, locals := 600 }) (va_Pc [.ref (AB 0), .int (nI k)] (mF dC dI AB cI cZ sz τ)) (va_Qi (fun (r : Int32) (τ2 : MS) => r = b2i (bt (stR τ C) k) ∧ τ2 = (va_up (va_up τ.1 0 0) 28 (nI k), τ.2)) (mB dC dI AB cI cZ (va_A (mW AB cI cZ τ) sz)) (va_A (mW AB cI cZ τ) sz)) 0 0 (va_A (mW AB cI cZ τ) sz) := by
  obtain ⟨sc, ar⟩ := τ
  refine Met.ofW (cc := cX4_hide) (maxL := 2) (ret := (some .boolean)) (by decide) rfl ?_
  intro p e s m args below meth c s₁ B hml hv
  obtain ⟨rfl, hsz, hP, hK, hD0⟩ := hv
  have hx := B.exec
  have hb := B.bytes
  have hr := B.returns
  have hts := atoms_spec (ws := wsX4_hide) B.pre
  have hown : s.vm.findClass RX4 = some m.cls := findClass_of_methodNamed B.named
  have hlocks := B.notSynchronized
  have hinX4 : ∀ w ∈ wsX40, w ∈ wsX4_hide := fun _ h => List.mem_cons_of_mem _ (List.mem_append_right _ h)
  subst hsz
  have hD := hD0.self (sz := s.heap.size)
  generalize hAe : va_A (mW AB cI cZ _) s.heap.size = V at hD ⊢
  have hA : ∀ q : Nat, s.heap.size ≤ q → V q := fun q h => by rw [← hAe]; exact Or.inr h
  have hS : va_S V s.heap s.heap [] := va_S.rf
  have hl := lv_entry ([.ref (AB 0), .int (nI k)]) (n := 2) (Nat.le_of_ble_eq_true rfl)
  rw [lg_entry_eq]
  generalize (lg_sl ([.ref (AB 0), .int (nI k)]) ++ List.replicate (2 - (lg_sl ([.ref (AB 0), .int (nI k)])).length) Slot.unset).toArray = ls at hl ⊢
  have hl : lv_has ls 2 [(0, .ref (AB 0)), (1, .int (nI k))] := hl
  have hP : va_P (dC, dI) vwCl (mL AB cI cZ sc ar) s.heap := hP
  have hD : va_D V (mL AB cI cZ sc ar) := hD
  refine lv_aload_n hx hb dX4_hide_0 rfl (lv_at hl 0 rfl) ?_
  refine lv_iconst (v := 0) hx hb dX4_hide_1 (by decide) ?_
  refine va_put (D := (dC, dI)) (ci := 4) (v := .int 0) (ty := .int) (C := RX4) (T := TX4) (N := 33) hx hb hts hinX4 tyX4 tyX4_ok nmX4 hown hK hP hD hS 0 rfl rfl 0 (by decide) (hts _ (List.mem_of_getElem? (i := 1) rfl)) (fun _ h9 => h9) rfl (by decide +kernel) rfl rfl (Nat.le_of_ble_eq_true rfl) dX4_hide_2 (fun H locs hP hD hS => ?_)
  have hP : va_P (dC, dI) vwCl (mL AB cI cZ (va_up sc 0 0) ar) H := hP
  have hD : va_D V (mL AB cI cZ (va_up sc 0 0) ar) := hD
  refine lv_iload_n hx hb dX4_hide_5 rfl (lv_at hl 1 rfl) ?_
  refine lv_iconst (v := 0) hx hb dX4_hide_6 (by decide) ?_
  refine lv_bipush (v := 15) hx hb dX4_hide_7 (by decide) ?_
  refine vp_callSi (W.runS (As := [.int (nI k), .int 0, .int 15]) (rest := []) ⟨hx, hb, hml, hown, hts⟩ (m_within l (nI k) 0 15) (va_cwS 3 hts gX4_hide_X4_within rfl rfl rfl (by decide +kernel) ⟨Nat.le_of_ble_eq_true rfl, Nat.le_of_ble_eq_true rfl⟩) ⟨bl_T, fun U hU hW => ⟨rfl, trivial⟩⟩ rfl rfl hl.1 rfl (lv_room (Nat.le_of_ble_eq_true rfl)) dX4_hide_9 ⟨Nat.zero_le _, Nat.zero_le _⟩) (fun r er => ?_)
  obtain rfl : r = b2i (wiB (nI k) 0 15) := er
  refine lv_if_ne (tgt := 29) hx hb dX4_hide_12 (by decide) (fun c12_0 => ?_) (fun c12_0 => ?_)
  · skip
    refine lv_aload_n hx hb dX4_hide_29 rfl (lv_at hl 0 rfl) ?_
    refine lv_iload_n hx hb dX4_hide_30 rfl (lv_at hl 1 rfl) ?_
    refine va_put (D := (dC, dI)) (ci := 4) (v := .int (nI k)) (ty := .int) (C := RX4) (T := TX4) (N := 33) hx hb hts hinX4 tyX4 tyX4_ok nmX4 hown hK hP hD hS 0 rfl rfl 28 (by decide) (hts _ (List.mem_of_getElem? (i := 2) rfl)) (fun _ h9 => h9) rfl (by decide +kernel) rfl rfl (Nat.le_of_ble_eq_true rfl) dX4_hide_31 (fun H locs hP hD hS => ?_)
    have hP : va_P (dC, dI) vwCl (mL AB cI cZ (va_up (va_up sc 0 0) 28 (nI k)) ar) H := hP
    have hD : va_D V (mL AB cI cZ (va_up (va_up sc 0 0) 28 (nI k)) ar) := hD
    refine lv_aload_n hx hb dX4_hide_34 rfl (lv_at hl 0 rfl) ?_
    refine vp_callSi (W.runV (As := []) (rest := []) ⟨hx, hb, hml, hown, hts⟩ (m_startBelief l dC dI AB cI cZ (va_up (va_up sc 0 0) 28 (nI k), ar) (C := C) hC hC6) (cwV 0 hts gX4_hide_X4_startBelief rfl rfl rfl (by decide +kernel) ⟨Nat.le_of_ble_eq_true rfl, Nat.le_of_ble_eq_true rfl⟩) ⟨bm_P, va_recv hK hP (ci := 4) (q0 := 0) rfl rfl, fun U hU hW => ⟨rfl, by rw [hU]; exact hP, va_K.moved hW.alike hK⟩⟩ rfl rfl hl.1 rfl (lv_room (Nat.le_of_ble_eq_true rfl)) dX4_hide_35 ⟨Nat.zero_le _, Nat.zero_le _⟩) (fun r er => ?_)
    obtain rfl : r = stR (sc, ar) C := er.trans (by rw [(frz_sc (frz_sc frz.rf (by decide)) (by decide)).st])
    refine lv_iload_n hx hb dX4_hide_38 rfl (lv_at hl 1 rfl) ?_
    refine lv_ishr hx hb dX4_hide_39 ?_
    refine lv_iconst (v := 1) hx hb dX4_hide_40 (by decide) ?_
    refine lv_iand hx hb dX4_hide_41 ?_
    refine lv_topi (fun y1 ey1 => ?_)
    obtain rfl : y1 = b2i (bt (stR (sc, ar) C) k) := ey1.trans (b_shr1 (by omega) _)
    refine lv_iconst (v := 1) hx hb dX4_hide_42 (by decide) ?_
    refine lv_icmp_ne (tgt := 50) hx hb dX4_hide_43 (by decide) (fun c43_2 => ?_) (fun c43_2 => ?_)
    · skip
      refine lv_iconst (v := 0) hx hb dX4_hide_50 (by decide) ?_
      exact W.zret hx hb hr rfl (fun t ht hW => ⟨⟨_, (va_up (va_up sc 0 0) 28 (nI k), ar), rfl, ⟨by show _ = b2i (bt (stR (sc, ar) C) k); rw [b2i_n1.mp c43_2]; rfl, rfl⟩, by rw [ht]; exact hP, hD⟩, hS.F ht⟩) hS.2.2 dX4_hide_51
    · skip
      refine lv_iconst (v := 1) hx hb dX4_hide_46 (by decide) ?_
      refine lv_goto (tgt := 51) hx hb dX4_hide_47 (by decide) ?_
      exact W.zret hx hb hr rfl (fun t ht hW => ⟨⟨_, (va_up (va_up sc 0 0) 28 (nI k), ar), rfl, ⟨by show _ = b2i (bt (stR (sc, ar) C) k); rw [b2i_1.mp c43_2]; rfl, rfl⟩, by rw [ht]; exact hP, hD⟩, hS.F ht⟩) hS.2.2 dX4_hide_51
  · exact absurd ((b2i_0.mp c12_0).symm.trans (wi_nat (n := 15) (k := k) (by omega) (by decide))) (by decide)
set_option maxHeartbeats 4000000 in
set_option maxRecDepth 100000 in
/-- trace 1 -/
theorem m_trace1 (l : Launch) (dC : Nat → ClassId) (dI : Nat → Nat → Nat) (AB : Nat → Nat) (cI cZ : ClassId) (τ : MS) (sz : Nat) (x : Int32) (h : wiB x 0 (τ.1 29 - 1) = false) : Met l yX4_trace wsX4_trace ({ frames := 12, cells := 0, slots := 0, locals := 600 }) (va_Pc [.ref (AB 0), .int x] (mF dC dI AB cI cZ sz τ)) (va_Qi (fun (r : Int32) (τ2 : MS) => r = 0 ∧ τ2 = (va_up τ.1 0 1, τ.2)) (mB dC dI AB cI cZ (va_A (mW AB cI cZ τ) sz)) (va_A (mW AB cI cZ τ) sz)) 0 0 (va_A (mW AB cI cZ τ) sz) := by
  obtain ⟨sc, ar⟩ := τ
  refine Met.ofW (cc := cX4_trace) (maxL := 2) (ret := (some .int)) (by decide) rfl ?_
  intro p e s m args below meth c s₁ B hml hv
  obtain ⟨rfl, hsz, hP, hK, hD0⟩ := hv
  have hx := B.exec
  have hb := B.bytes
  have hr := B.returns
  have hts := atoms_spec (ws := wsX4_trace) B.pre
  have hown : s.vm.findClass RX4 = some m.cls := findClass_of_methodNamed B.named
  have hlocks := B.notSynchronized
  have hinX4 : ∀ w ∈ wsX40, w ∈ wsX4_trace := fun _ h => List.mem_cons_of_mem _ (List.mem_append_right _ h)
  subst hsz
  have hD := hD0.self (sz := s.heap.size)
  generalize hAe : va_A (mW AB cI cZ _) s.heap.size = V at hD ⊢
  have hA : ∀ q : Nat, s.heap.size ≤ q → V q := fun q h => by rw [← hAe]; exact Or.inr h
  have hS : va_S V s.heap s.heap [] := va_S.rf
  have hl := lv_entry ([.ref (AB 0), .int x]) (n := 2) (Nat.le_of_ble_eq_true rfl)
  rw [lg_entry_eq]
  generalize (lg_sl ([.ref (AB 0), .int x]) ++ List.replicate (2 - (lg_sl ([.ref (AB 0), .int x])).length) Slot.unset).toArray = ls at hl ⊢
  have hl : lv_has ls 2 [(0, .ref (AB 0)), (1, .int x)] := hl
  have hP : va_P (dC, dI) vwCl (mL AB cI cZ sc ar) s.heap := hP
  have hD : va_D V (mL AB cI cZ sc ar) := hD
  refine lv_aload_n hx hb dX4_trace_0 rfl (lv_at hl 0 rfl) ?_
  refine lv_iconst (v := 0) hx hb dX4_trace_1 (by decide) ?_
  refine va_put (D := (dC, dI)) (ci := 4) (v := .int 0) (ty := .int) (C := RX4) (T := TX4) (N := 33) hx hb hts hinX4 tyX4 tyX4_ok nmX4 hown hK hP hD hS 0 rfl rfl 0 (by decide) (hts _ (List.mem_of_getElem? (i := 1) rfl)) (fun _ h9 => h9) rfl (by decide +kernel) rfl rfl (Nat.le_of_ble_eq_true rfl) dX4_trace_2 (fun H locs hP hD hS => ?_)
  have hP : va_P (dC, dI) vwCl (mL AB cI cZ (va_up sc 0 0) ar) H := hP
  have hD : va_D V (mL AB cI cZ (va_up sc 0 0) ar) := hD
  refine lv_iload_n hx hb dX4_trace_5 rfl (lv_at hl 1 rfl) ?_
  refine lv_iconst (v := 0) hx hb dX4_trace_6 (by decide) ?_
  refine lv_aload_n hx hb dX4_trace_7 rfl (lv_at hl 0 rfl) ?_
  refine va_get (D := (dC, dI)) (ci := 4) (v := .int (sc 29)) (C := RX4) (T := TX4) (N := 33) hx hb hts hinX4 hown hK hP 0 rfl rfl 29 (by decide) (hts _ (List.mem_of_getElem? (i := 2) rfl)) (fun _ h9 => h9) rfl dX4_trace_8 ?_
  refine lv_iconst (v := 1) hx hb dX4_trace_11 (by decide) ?_
  refine lv_isub hx hb dX4_trace_12 ?_
  refine vp_callSi (W.runS (As := [.int x, .int 0, .int ((sc 29) - 1)]) (rest := []) ⟨hx, hb, hml, hown, hts⟩ (m_within l x 0 ((sc 29) - 1)) (va_cwS 3 hts gX4_trace_X4_within rfl rfl rfl (by decide +kernel) ⟨Nat.le_of_ble_eq_true rfl, Nat.le_of_ble_eq_true rfl⟩) ⟨bl_T, fun U hU hW => ⟨rfl, trivial⟩⟩ rfl rfl hl.1 rfl (lv_room (Nat.le_of_ble_eq_true rfl)) dX4_trace_13 ⟨Nat.zero_le _, Nat.zero_le _⟩) (fun r er => ?_)
  obtain rfl : r = b2i (wiB x 0 ((sc 29) - 1)) := er
  refine lv_if_eq (tgt := 28) hx hb dX4_trace_16 (by decide) (fun c16_0 => ?_) (fun c16_0 => ?_)
  · skip
    refine lv_aload_n hx hb dX4_trace_28 rfl (lv_at hl 0 rfl) ?_
    refine lv_iconst (v := 1) hx hb dX4_trace_29 (by decide) ?_
    have hFc := m_free (τ := (va_up sc 0 0, ar)) hD hS hA
    refine va_calli (va_runV (As := [.int 1]) (rest := []) ⟨hx, hb, hml, hown, hts⟩ (m_fail l dC dI AB cI cZ (va_up sc 0 0, ar) H.size 1) (cwV 1 hts gX4_trace_X4_fail rfl rfl rfl (by decide +kernel) ⟨Nat.le_of_ble_eq_true rfl, Nat.le_of_ble_eq_true rfl⟩) ⟨bm_F, va_recv hK hP (ci := 4) (q0 := 0) rfl rfl, fun U hU hW => ⟨rfl, by rw [hU], by rw [hU]; exact hP, va_K.moved hW.alike hK, hf_any hD⟩⟩ rfl rfl hl.1 rfl (lv_room (Nat.le_of_ble_eq_true rfl)) dX4_trace_30 ⟨Nat.zero_le _, Nat.zero_le _⟩) hS (fun q _ h => hFc q h) hFc (fun r u t H locs ht hvm hw hB hz1 hk1 hS => ?_)
    obtain ⟨hP1, hD1⟩ := hB
    rw [ht] at hP1
    obtain ⟨rfl, rfl⟩ := hw
    have hP : va_P (dC, dI) vwCl (mL AB cI cZ (va_up sc 0 1) ar) H := hP1
    have hD : va_D V (mL AB cI cZ (va_up sc 0 1) ar) := hf_weak hD1 hFc
    clear hP1 hD1 hFc
    exact W.iret hx hb hr (fun t ht hW => ⟨⟨_, (va_up sc 0 1, ar), rfl, ⟨rfl, rfl⟩, by rw [ht]; exact hP, hD⟩, hS.F ht⟩) hS.2.2 dX4_trace_33
  · exact absurd ((b2i_n0.mp c16_0).symm.trans h) (by decide)
set_option maxHeartbeats 4000000 in
set_option maxRecDepth 100000 in
/-- trace 0 -/
theorem m_trace0 (l : Launch) (dC : Nat → ClassId) (dI : Nat → Nat → Nat) (AB : Nat → Nat) (cI cZ : ClassId) (τ : MS) (sz : Nat) {k : Nat} (hk : k < 8) (h : wiB (nI k) 0 (τ.1 29 - 1) = true) : Met l yX4_trace wsX4_trace ({ frames := 12, cells := 0, slots := 0, locals := 600 }) (va_Pc [.ref (AB 0), .int (nI k)] (mF dC dI AB cI cZ sz τ)) (va_Qi (fun (r : Int32) (τ2 : MS) => r = τ.2 30 k ∧ τ2 = (va_up τ.1 0 0, τ.2)) (mB dC dI AB cI cZ (va_A (mW AB cI cZ τ) sz)) (va_A (mW AB cI cZ τ) sz)) 0 0 (va_A (mW AB cI cZ τ) sz) := by
  obtain ⟨sc, ar⟩ := τ
  refine Met.ofW (cc := cX4_trace) (maxL := 2) (ret := (some .int)) (by decide) rfl ?_
  intro p e s m args below meth c s₁ B hml hv
  obtain ⟨rfl, hsz, hP, hK, hD0⟩ := hv
  have hx := B.exec
  have hb := B.bytes
  have hr := B.returns
  have hts := atoms_spec (ws := wsX4_trace) B.pre
  have hown : s.vm.findClass RX4 = some m.cls := findClass_of_methodNamed B.named
  have hlocks := B.notSynchronized
  have hinX4 : ∀ w ∈ wsX40, w ∈ wsX4_trace := fun _ h => List.mem_cons_of_mem _ (List.mem_append_right _ h)
  subst hsz
  have hD := hD0.self (sz := s.heap.size)
  generalize hAe : va_A (mW AB cI cZ _) s.heap.size = V at hD ⊢
  have hA : ∀ q : Nat, s.heap.size ≤ q → V q := fun q h => by rw [← hAe]; exact Or.inr h
  have hS : va_S V s.heap s.heap [] := va_S.rf
  have hl := lv_entry ([.ref (AB 0), .int (nI k)]) (n := 2) (Nat.le_of_ble_eq_true rfl)
  rw [lg_entry_eq]
  generalize (lg_sl ([.ref (AB 0), .int (nI k)]) ++ List.replicate (2 - (lg_sl ([.ref (AB 0), .int (nI k)])).length) Slot.unset).toArray = ls at hl ⊢
  have hl : lv_has ls 2 [(0, .ref (AB 0)), (1, .int (nI k))] := hl
  have hP : va_P (dC, dI) vwCl (mL AB cI cZ sc ar) s.heap := hP
  have hD : va_D V (mL AB cI cZ sc ar) := hD
  refine lv_aload_n hx hb dX4_trace_0 rfl (lv_at hl 0 rfl) ?_
  refine lv_iconst (v := 0) hx hb dX4_trace_1 (by decide) ?_
  refine va_put (D := (dC, dI)) (ci := 4) (v := .int 0) (ty := .int) (C := RX4) (T := TX4) (N := 33) hx hb hts hinX4 tyX4 tyX4_ok nmX4 hown hK hP hD hS 0 rfl rfl 0 (by decide) (hts _ (List.mem_of_getElem? (i := 1) rfl)) (fun _ h9 => h9) rfl (by decide +kernel) rfl rfl (Nat.le_of_ble_eq_true rfl) dX4_trace_2 (fun H locs hP hD hS => ?_)
  have hP : va_P (dC, dI) vwCl (mL AB cI cZ (va_up sc 0 0) ar) H := hP
  have hD : va_D V (mL AB cI cZ (va_up sc 0 0) ar) := hD
  refine lv_iload_n hx hb dX4_trace_5 rfl (lv_at hl 1 rfl) ?_
  refine lv_iconst (v := 0) hx hb dX4_trace_6 (by decide) ?_
  refine lv_aload_n hx hb dX4_trace_7 rfl (lv_at hl 0 rfl) ?_
  refine va_get (D := (dC, dI)) (ci := 4) (v := .int (sc 29)) (C := RX4) (T := TX4) (N := 33) hx hb hts hinX4 hown hK hP 0 rfl rfl 29 (by decide) (hts _ (List.mem_of_getElem? (i := 2) rfl)) (fun _ h9 => h9) rfl dX4_trace_8 ?_
  refine lv_iconst (v := 1) hx hb dX4_trace_11 (by decide) ?_
  refine lv_isub hx hb dX4_trace_12 ?_
  refine vp_callSi (W.runS (As := [.int (nI k), .int 0, .int ((sc 29) - 1)]) (rest := []) ⟨hx, hb, hml, hown, hts⟩ (m_within l (nI k) 0 ((sc 29) - 1)) (va_cwS 3 hts gX4_trace_X4_within rfl rfl rfl (by decide +kernel) ⟨Nat.le_of_ble_eq_true rfl, Nat.le_of_ble_eq_true rfl⟩) ⟨bl_T, fun U hU hW => ⟨rfl, trivial⟩⟩ rfl rfl hl.1 rfl (lv_room (Nat.le_of_ble_eq_true rfl)) dX4_trace_13 ⟨Nat.zero_le _, Nat.zero_le _⟩) (fun r er => ?_)
  obtain rfl : r = b2i (wiB (nI k) 0 ((sc 29) - 1)) := er
  refine lv_if_eq (tgt := 28) hx hb dX4_trace_16 (by decide) (fun c16_0 => ?_) (fun c16_0 => ?_)
  · exact absurd ((b2i_0.mp c16_0).symm.trans h) (by decide)
  · skip
    refine lv_aload_n hx hb dX4_trace_19 rfl (lv_at hl 0 rfl) ?_
    refine va_get (D := (dC, dI)) (ci := 4) (v := .ref (AB 30)) (C := RX4) (T := TX4) (N := 33) hx hb hts hinX4 hown hK hP 0 rfl rfl 30 (by decide) (hts _ (List.mem_of_getElem? (i := 3) rfl)) (fun _ h9 => h9) rfl dX4_trace_20 ?_
    refine lv_iload_n hx hb dX4_trace_23 rfl (lv_at hl 1 rfl) ?_
    refine va_iald hx hb hK hP 24 0 rfl rfl (vp_in_nI (show k < 8 by omega) (by decide)) dX4_trace_24 ?_
    rw [nI_clamp (show k < 2 ^ 31 by have := (show k < 8 by omega); omega)]
    refine lv_goto (tgt := 33) hx hb dX4_trace_25 (by decide) ?_
    exact W.iret hx hb hr (fun t ht hW => ⟨⟨_, (va_up sc 0 0, ar), rfl, ⟨rfl, rfl⟩, by rw [ht]; exact hP, hD⟩, hS.F ht⟩) hS.2.2 dX4_trace_33
