theorem dep_ok : ∀ k, k < 32 → ∀ j, j ≤ Nat.log2 k → (k / 2 ^ j ≤ 1 ↔ j = Nat.log2 k) ∧ k / 2 ^ j / 2 = k / 2 ^ (j + 1) ∧ k / 2 ^ j < 32 := by
  have h : ∀ k, k < 32 → ∀ j, j < 5 → j ≤ Nat.log2 k → (k / 2 ^ j ≤ 1 ↔ j = Nat.log2 k) ∧ k / 2 ^ j / 2 = k / 2 ^ (j + 1) ∧ k / 2 ^ j < 32 := by decide +kernel
  have h5 : ∀ k, k < 32 → Nat.log2 k < 5 := by decide +kernel
  intro k hk j hj
  have := h5 k hk
  exact h k hk j (by omega) hj
theorem half_ok : ∀ v, v < 32 → nI v / 2 = nI (v / 2) := by decide +kernel
/-- what a node of the plan does: nothing in the empty belief and in one that is at the goal -/
def dcO (us : Nat → Int32 → Bool) (pt : Nat → Int32 → Int32 → Int32) (re : Int32 → Bool) (n : Nat) (x : Int32) : Option Nat := if x = 0 ∨ re x = true then none else lea us pt re n x
def chO (pt : Nat → Int32 → Int32 → Int32) (x w : Int32) : Option Nat → Int32
  | none => 0
  | some a => pt a x w
theorem upd4 (f : Nat → Int32) {i j : Nat} (h : ¬ i = j) (a b x y : Int32) : upd (upd (upd (upd f i a) j b) i x) j y = upd (upd f i x) j y := by
  funext q
  by_cases h1 : q = j
  · subst h1; rw [upd_eq, upd_eq]
  · rw [upd_ne h1, upd_ne h1]
    by_cases h2 : q = i
    · subst h2; rw [upd_eq, upd_eq]
    · rw [upd_ne h2, upd_ne h1, upd_ne h2, upd_ne h2]
theorem lea_first {us : Nat → Int32 → Bool} {pt : Nat → Int32 → Int32 → Int32} {re : Int32 → Bool} {n : Nat} {x : Int32} {a : Nat} (h : lea us pt re (n + 1) x = some a) : a < 8 ∧ (us a x && (slv us pt re n (pt a x 0) && slv us pt re n (pt a x 1))) = true ∧ ∀ j, j < a → (us j x && (slv us pt re n (pt j x 0) && slv us pt re n (pt j x 1))) = false := by
  have q := List.find?_range_eq_some.mp h
  refine ⟨List.mem_range.mp q.2.1, q.1, fun j hj => ?_⟩
  have h9 : (!(us j x && (slv us pt re n (pt j x 0) && slv us pt re n (pt j x 1)))) = true := q.2.2 j hj
  revert h9
  cases (us j x && (slv us pt re n (pt j x 0) && slv us pt re n (pt j x 1)))
  · exact fun _ => rfl
  · exact fun h9 => nomatch h9
set_option maxHeartbeats 4000000 in
set_option maxRecDepth 100000 in
/-- leastFor -/
theorem m_leastFor (l : Launch) (dC : Nat → ClassId) (dI : Nat → Nat → Nat) (AB : Nat → Nat) (cI cZ : ClassId) (τ : MS) (sz : Nat) {th : Nat → Bool} {ef : Nat → Nat} (hM : mok th ef τ) (b : Int32) {q : Nat} (hq : q ≤ 4) : Met l yX4_leastFor wsX4_leastFor ({ frames := 5, cells := 0, slots := 0, locals := 160 }) (va_Pc [.ref (AB 0), .int b, .int (nI q)] (mF dC dI AB cI cZ sz τ)) (va_Qi (fun (r : Int32) (τ2 : MS) => r = o2i (few (usR th τ) (ptR ef τ) (reR τ) b q) ∧ ∃ x y z : Nat → Int32, τ2 = (τ.1, va_up (va_up (va_up τ.2 19 x) 20 y) 21 z)) (mB dC dI AB cI cZ (va_A (mW AB cI cZ τ) sz)) (va_A (mW AB cI cZ τ) sz)) 0 0 (va_A (mW AB cI cZ τ) sz) := by
  obtain ⟨sc, ar⟩ := τ
  refine Met.ofW (cc := cX4_leastFor) (maxL := 4) (ret := (some .int)) (by decide) rfl ?_
  intro p e s m args below meth c s₁ B hml hv
  obtain ⟨rfl, hsz, hP, hK, hD0⟩ := hv
  have hx := B.exec
  have hb := B.bytes
  have hr := B.returns
  have hts := atoms_spec (ws := wsX4_leastFor) B.pre
  have hown : s.vm.findClass RX4 = some m.cls := findClass_of_methodNamed B.named
  have hlocks := B.notSynchronized
  have hinX4 : ∀ w ∈ wsX40, w ∈ wsX4_leastFor := fun _ h => List.mem_cons_of_mem _ (List.mem_append_right _ h)
  subst hsz
  have hD := hD0.self (sz := s.heap.size)
  generalize hAe : va_A (mW AB cI cZ _) s.heap.size = V at hD ⊢
  have hA : ∀ q : Nat, s.heap.size ≤ q → V q := fun q h => by rw [← hAe]; exact Or.inr h
  have hS : va_S V s.heap s.heap [] := va_S.rf
  have hl := lv_entry ([.ref (AB 0), .int b, .int (nI q)]) (n := 4) (Nat.le_of_ble_eq_true rfl)
  rw [lg_entry_eq]
  generalize (lg_sl ([.ref (AB 0), .int b, .int (nI q)]) ++ List.replicate (4 - (lg_sl ([.ref (AB 0), .int b, .int (nI q)])).length) Slot.unset).toArray = ls at hl ⊢
  have hl : lv_has ls 4 [(0, .ref (AB 0)), (1, .int b), (2, .int (nI q))] := hl
  have hP : va_P (dC, dI) vwCl (mL AB cI cZ sc ar) s.heap := hP
  have hD : va_D V (mL AB cI cZ sc ar) := hD
  refine lv_iconst (v := 0) hx hb dX4_leastFor_0 (by decide) ?_
  refine lv_istore_n (lv' := [(3, .int 0), (0, .ref (AB 0)), (1, .int b), (2, .int (nI q))]) hx hb dX4_leastFor_1 rfl hl (by decide) rfl (fun ls hl => ?_)
  refine w_loopH (pc := 2) (q + 1) (fun k ls H locs => ∃ xa ya za : Nat → Int32, va_P (dC, dI) vwCl (mL AB cI cZ sc (va_up (va_up (va_up ar 19 xa) 20 ya) 21 za)) H ∧ va_D V (mL AB cI cZ sc (va_up (va_up (va_up ar 19 xa) 20 ya) 21 za)) ∧ va_S V s.heap H locs ∧ (∀ j, j < k → slv (usR th (sc, ar)) (ptR ef (sc, ar)) (reR (sc, ar)) j b = false) ∧ lv_has ls 4 [(0, .ref (AB 0)), (1, .int b), (2, .int (nI q)), (3, .int (nI k))]) ?_ 0 (Nat.zero_le _) ls _ _ ⟨ar 19, ar 20, ar 21, hP, hD, hS, fun j hj => absurd hj (by omega), lv_sub hl [1, 2, 3, 0] rfl⟩
  intro k ls H locs hk hI ih
  obtain ⟨xa, ya, za, hP, hD, hS, hno, hl⟩ := hI
  refine lv_iload_n hx hb dX4_leastFor_2 rfl (lv_at hl 3 rfl) ?_
  refine lv_iload_n hx hb dX4_leastFor_3 rfl (lv_at hl 2 rfl) ?_
  refine lv_icmp_gt (tgt := 24) hx hb dX4_leastFor_4 (by decide) (fun c4_0 => ?_) (fun c4_0 => ?_)
  · skip
    have hkq : q < k := by rcases Nat.lt_or_ge q k with z9 | z9; exact z9; exact absurd c4_0 (Int32.not_lt.mpr (nI_le z9 (by omega)))
    refine lv_iconst (v := (-1)) hx hb dX4_leastFor_24 (by decide) ?_
    exact W.iret hx hb hr (fun t ht hW => ⟨⟨_, (sc, va_up (va_up (va_up ar 19 xa) 20 ya) 21 za), rfl, ⟨by show _ = o2i (few (usR th (sc, ar)) (ptR ef (sc, ar)) (reR (sc, ar)) b q); rw [show few (usR th (sc, ar)) (ptR ef (sc, ar)) (reR (sc, ar)) b q = none from find_no (fun j hj => hno j (by omega))]; rfl, xa, ya, za, rfl⟩, by rw [ht]; exact hP, hD⟩, hS.F ht⟩) hS.2.2 dX4_leastFor_25
  · skip
    have hkq : k ≤ q := by rcases Nat.lt_or_ge q k with z9 | z9; exact absurd (nI_lt z9 (by omega)) c4_0; exact z9
    refine lv_aload_n hx hb dX4_leastFor_7 rfl (lv_at hl 0 rfl) ?_
    refine lv_iload_n hx hb dX4_leastFor_8 rfl (lv_at hl 1 rfl) ?_
    refine lv_iload_n hx hb dX4_leastFor_9 rfl (lv_at hl 3 rfl) ?_
    have hFc := m_free (τ := (sc, va_up (va_up (va_up ar 19 xa) 20 ya) 21 za)) hD hS hA
    refine va_calli (va_runV (As := [.int b, .int (nI k)]) (rest := []) ⟨hx, hb, hml, hown, hts⟩ (m_solved l dC dI AB cI cZ (sc, va_up (va_up (va_up ar 19 xa) 20 ya) 21 za) H.size ((frz_up (frz_up (frz_up frz.rf (by decide)) (by decide)) (by decide)).mok hM) b (n := k) (by omega)) (cwV 2 hts gX4_leastFor_X4_solved rfl rfl rfl (by decide +kernel) ⟨Nat.le_of_ble_eq_true rfl, Nat.le_of_ble_eq_true rfl⟩) ⟨bm_F, va_recv hK hP (ci := 4) (q0 := 0) rfl rfl, fun U hU hW => ⟨rfl, by rw [hU], by rw [hU]; exact hP, va_K.moved hW.alike hK, hf_any hD⟩⟩ rfl rfl hl.1 rfl (lv_room (Nat.le_of_ble_eq_true rfl)) dX4_leastFor_10 ⟨Nat.zero_le _, Nat.zero_le _⟩) hS (fun q _ h => hFc q h) hFc (fun r u t H locs ht hvm hw hB hz1 hk1 hS => ?_)
    obtain ⟨hP1, hD1⟩ := hB
    rw [ht] at hP1
    obtain ⟨er, xb, yb, zb, rfl⟩ := hw
    rw [(frz_up (frz_up (frz_up frz.rf (by decide)) (by decide)) (by decide)).us, (frz_up (frz_up (frz_up frz.rf (by decide)) (by decide)) (by decide)).pt, (frz_up (frz_up (frz_up frz.rf (by decide)) (by decide)) (by decide)).re] at er
    subst er
    have hP : va_P (dC, dI) vwCl (mL AB cI cZ sc (va_up (va_up (va_up ar 19 xb) 20 yb) 21 zb)) H := hP1
    have hD : va_D V (mL AB cI cZ sc (va_up (va_up (va_up ar 19 xb) 20 yb) 21 zb)) := hf_weak hD1 hFc
    clear hP1 hD1 hFc
    refine lv_if_eq (tgt := 18) hx hb dX4_leastFor_13 (by decide) (fun c13_1 => ?_) (fun c13_1 => ?_)
    · skip
      obtain ⟨y2, ey2⟩ : ∃ y : Int32, y = (nI k) + 1 := ⟨_, rfl⟩
      refine lv_iinc (v := y2) (lv' := [(3, .int y2), (0, .ref (AB 0)), (1, .int b), (2, .int (nI q))]) hx hb dX4_leastFor_18 hl (k := 3) rfl (by rw [ey2]; rfl) (by decide) rfl (fun ls hl => ?_)
      obtain rfl : y2 = nI (k + 1) := ey2.trans (nI_1 k)
      refine lv_goto (tgt := 2) hx hb dX4_leastFor_21 (by decide) ?_
      exact ih ls H locs ⟨xb, yb, zb, hP, hD, hS, (fun j hj => by rcases Nat.lt_or_ge j k with z9 | z9; exact hno j z9; rw [show j = k by omega]; exact b2i_0.mp c13_1), lv_sub hl [1, 2, 3, 0] rfl⟩ (by omega)
    · skip
      refine lv_iload_n hx hb dX4_leastFor_16 rfl (lv_at hl 3 rfl) ?_
      exact W.iret hx hb hr (fun t ht hW => ⟨⟨_, (sc, va_up (va_up (va_up ar 19 xb) 20 yb) 21 zb), rfl, ⟨by show _ = o2i (few (usR th (sc, ar)) (ptR ef (sc, ar)) (reR (sc, ar)) b q); rw [show few (usR th (sc, ar)) (ptR ef (sc, ar)) (reR (sc, ar)) b q = some k from find_at (by omega) (b2i_n0.mp c13_1) hno]; rfl, xb, yb, zb, rfl⟩, by rw [ht]; exact hP, hD⟩, hS.F ht⟩) hS.2.2 dX4_leastFor_17
set_option maxHeartbeats 4000000 in
set_option maxRecDepth 100000 in
/-- least 1 -/
theorem m_least1 (l : Launch) (dC : Nat → ClassId) (dI : Nat → Nat → Nat) (AB : Nat → Nat) (cI cZ : ClassId) (τ : MS) (sz : Nat) (b x : Int32) (h : (wiB b 1 65535 && wiB x 0 4) = false) : Met l yX4_least wsX4_least ({ frames := 12, cells := 0, slots := 0, locals := 600 }) (va_Pc [.ref (AB 0), .int b, .int x] (mF dC dI AB cI cZ sz τ)) (va_Qi (fun (r : Int32) (τ2 : MS) => r = 0 ∧ τ2 = (va_up τ.1 0 1, τ.2)) (mB dC dI AB cI cZ (va_A (mW AB cI cZ τ) sz)) (va_A (mW AB cI cZ τ) sz)) 0 0 (va_A (mW AB cI cZ τ) sz) := by
  obtain ⟨sc, ar⟩ := τ
  refine Met.ofW (cc := cX4_least) (maxL := 4) (ret := (some .int)) (by decide) rfl ?_
  intro p e s m args below meth c s₁ B hml hv
  obtain ⟨rfl, hsz, hP, hK, hD0⟩ := hv
  have hx := B.exec
  have hb := B.bytes
  have hr := B.returns
  have hts := atoms_spec (ws := wsX4_least) B.pre
  have hown : s.vm.findClass RX4 = some m.cls := findClass_of_methodNamed B.named
  have hlocks := B.notSynchronized
  have hinX4 : ∀ w ∈ wsX40, w ∈ wsX4_least := fun _ h => List.mem_cons_of_mem _ (List.mem_append_right _ h)
  subst hsz
  have hD := hD0.self (sz := s.heap.size)
  generalize hAe : va_A (mW AB cI cZ _) s.heap.size = V at hD ⊢
  have hA : ∀ q : Nat, s.heap.size ≤ q → V q := fun q h => by rw [← hAe]; exact Or.inr h
  have hS : va_S V s.heap s.heap [] := va_S.rf
  have hl := lv_entry ([.ref (AB 0), .int b, .int x]) (n := 4) (Nat.le_of_ble_eq_true rfl)
  rw [lg_entry_eq]
  generalize (lg_sl ([.ref (AB 0), .int b, .int x]) ++ List.replicate (4 - (lg_sl ([.ref (AB 0), .int b, .int x])).length) Slot.unset).toArray = ls at hl ⊢
  have hl : lv_has ls 4 [(0, .ref (AB 0)), (1, .int b), (2, .int x)] := hl
  have hP : va_P (dC, dI) vwCl (mL AB cI cZ sc ar) s.heap := hP
  have hD : va_D V (mL AB cI cZ sc ar) := hD
  refine lv_aload_n hx hb dX4_least_0 rfl (lv_at hl 0 rfl) ?_
  refine lv_iconst (v := 0) hx hb dX4_least_1 (by decide) ?_
  refine va_put (D := (dC, dI)) (ci := 4) (v := .int 0) (ty := .int) (C := RX4) (T := TX4) (N := 33) hx hb hts hinX4 tyX4 tyX4_ok nmX4 hown hK hP hD hS 0 rfl rfl 0 (by decide) (hts _ (List.mem_of_getElem? (i := 1) rfl)) (fun _ h9 => h9) rfl (by decide +kernel) rfl rfl (Nat.le_of_ble_eq_true rfl) dX4_least_2 (fun H locs hP hD hS => ?_)
  have hP : va_P (dC, dI) vwCl (mL AB cI cZ (va_up sc 0 0) ar) H := hP
  have hD : va_D V (mL AB cI cZ (va_up sc 0 0) ar) := hD
  refine lv_iload_n hx hb dX4_least_5 rfl (lv_at hl 1 rfl) ?_
  refine lv_iconst (v := 1) hx hb dX4_least_6 (by decide) ?_
  refine lv_ldc (v := (65535)) hx hb hown (hts _ (List.mem_of_getElem? (i := 2) rfl)) dX4_least_7 ?_
  refine vp_callSi (W.runS (As := [.int b, .int 1, .int (65535)]) (rest := []) ⟨hx, hb, hml, hown, hts⟩ (m_within l b 1 (65535)) (va_cwS 3 hts gX4_least_X4_within rfl rfl rfl (by decide +kernel) ⟨Nat.le_of_ble_eq_true rfl, Nat.le_of_ble_eq_true rfl⟩) ⟨bl_T, fun U hU hW => ⟨rfl, trivial⟩⟩ rfl rfl hl.1 rfl (lv_room (Nat.le_of_ble_eq_true rfl)) dX4_least_9 ⟨Nat.zero_le _, Nat.zero_le _⟩) (fun r er => ?_)
  obtain rfl : r = b2i (wiB b 1 (65535)) := er
  refine lv_if_eq (tgt := 24) hx hb dX4_least_12 (by decide) (fun c12_0 => ?_) (fun c12_0 => ?_)
  · skip
    refine lv_aload_n hx hb dX4_least_24 rfl (lv_at hl 0 rfl) ?_
    refine lv_iconst (v := 1) hx hb dX4_least_25 (by decide) ?_
    have hFc := m_free (τ := (va_up sc 0 0, ar)) hD hS hA
    refine va_calli (va_runV (As := [.int 1]) (rest := []) ⟨hx, hb, hml, hown, hts⟩ (m_fail l dC dI AB cI cZ (va_up sc 0 0, ar) H.size 1) (cwV 1 hts gX4_least_X4_fail rfl rfl rfl (by decide +kernel) ⟨Nat.le_of_ble_eq_true rfl, Nat.le_of_ble_eq_true rfl⟩) ⟨bm_F, va_recv hK hP (ci := 4) (q0 := 0) rfl rfl, fun U hU hW => ⟨rfl, by rw [hU], by rw [hU]; exact hP, va_K.moved hW.alike hK, hf_any hD⟩⟩ rfl rfl hl.1 rfl (lv_room (Nat.le_of_ble_eq_true rfl)) dX4_least_26 ⟨Nat.zero_le _, Nat.zero_le _⟩) hS (fun q _ h => hFc q h) hFc (fun r u t H locs ht hvm hw hB hz1 hk1 hS => ?_)
    obtain ⟨hP1, hD1⟩ := hB
    rw [ht] at hP1
    obtain ⟨rfl, rfl⟩ := hw
    have hP : va_P (dC, dI) vwCl (mL AB cI cZ (va_up sc 0 1) ar) H := hP1
    have hD : va_D V (mL AB cI cZ (va_up sc 0 1) ar) := hf_weak hD1 hFc
    clear hP1 hD1 hFc
    exact W.iret hx hb hr (fun t ht hW => ⟨⟨_, (va_up sc 0 1, ar), rfl, ⟨rfl, rfl⟩, by rw [ht]; exact hP, hD⟩, hS.F ht⟩) hS.2.2 dX4_least_29
  · skip
    refine lv_iload_n hx hb dX4_least_15 rfl (lv_at hl 2 rfl) ?_
    refine lv_iconst (v := 0) hx hb dX4_least_16 (by decide) ?_
    refine lv_iconst (v := 4) hx hb dX4_least_17 (by decide) ?_
    refine vp_callSi (W.runS (As := [.int x, .int 0, .int 4]) (rest := []) ⟨hx, hb, hml, hown, hts⟩ (m_within l x 0 4) (va_cwS 3 hts gX4_least_X4_within rfl rfl rfl (by decide +kernel) ⟨Nat.le_of_ble_eq_true rfl, Nat.le_of_ble_eq_true rfl⟩) ⟨bl_T, fun U hU hW => ⟨rfl, trivial⟩⟩ rfl rfl hl.1 rfl (lv_room (Nat.le_of_ble_eq_true rfl)) dX4_least_18 ⟨Nat.zero_le _, Nat.zero_le _⟩) (fun r er => ?_)
    obtain rfl : r = b2i (wiB x 0 4) := er
    refine lv_if_ne (tgt := 30) hx hb dX4_least_21 (by decide) (fun c21_1 => ?_) (fun c21_1 => ?_)
    · exact absurd h (by rw [b2i_n0.mp c12_0, b2i_n0.mp c21_1]; decide)
    · skip
      refine lv_aload_n hx hb dX4_least_24 rfl (lv_at hl 0 rfl) ?_
      refine lv_iconst (v := 1) hx hb dX4_least_25 (by decide) ?_
      have hFc := m_free (τ := (va_up sc 0 0, ar)) hD hS hA
      refine va_calli (va_runV (As := [.int 1]) (rest := []) ⟨hx, hb, hml, hown, hts⟩ (m_fail l dC dI AB cI cZ (va_up sc 0 0, ar) H.size 1) (cwV 1 hts gX4_least_X4_fail rfl rfl rfl (by decide +kernel) ⟨Nat.le_of_ble_eq_true rfl, Nat.le_of_ble_eq_true rfl⟩) ⟨bm_F, va_recv hK hP (ci := 4) (q0 := 0) rfl rfl, fun U hU hW => ⟨rfl, by rw [hU], by rw [hU]; exact hP, va_K.moved hW.alike hK, hf_any hD⟩⟩ rfl rfl hl.1 rfl (lv_room (Nat.le_of_ble_eq_true rfl)) dX4_least_26 ⟨Nat.zero_le _, Nat.zero_le _⟩) hS (fun q _ h => hFc q h) hFc (fun r u t H locs ht hvm hw hB hz1 hk1 hS => ?_)
      obtain ⟨hP1, hD1⟩ := hB
      rw [ht] at hP1
      obtain ⟨rfl, rfl⟩ := hw
      have hP : va_P (dC, dI) vwCl (mL AB cI cZ (va_up sc 0 1) ar) H := hP1
      have hD : va_D V (mL AB cI cZ (va_up sc 0 1) ar) := hf_weak hD1 hFc
      clear hP1 hD1 hFc
      exact W.iret hx hb hr (fun t ht hW => ⟨⟨_, (va_up sc 0 1, ar), rfl, ⟨rfl, rfl⟩, by rw [ht]; exact hP, hD⟩, hS.F ht⟩) hS.2.2 dX4_least_29
set_option maxHeartbeats 4000000 in
set_option maxRecDepth 100000 in
/-- least 2 -/
theorem m_least2 (l : Launch) (dC : Nat → ClassId) (dI : Nat → Nat → Nat) (AB : Nat → Nat) (cI cZ : ClassId) (τ : MS) (sz : Nat) {th : Nat → Bool} {ef : Nat → Nat} (hM : mok th ef τ) (b : Int32) {q : Nat} (hq : q ≤ 4) (h1 : wiB b 1 65535 = true) (h : few (usR th τ) (ptR ef τ) (reR τ) b q = none) : Met l yX4_least wsX4_least ({ frames := 12, cells := 0, slots := 0, locals := 600 }) (va_Pc [.ref (AB 0), .int b, .int (nI q)] (mF dC dI AB cI cZ sz τ)) (va_Qi (fun (r : Int32) (τ2 : MS) => r = 0 ∧ ∃ x y z : Nat → Int32, τ2 = (va_up τ.1 0 2, va_up (va_up (va_up τ.2 19 x) 20 y) 21 z)) (mB dC dI AB cI cZ (va_A (mW AB cI cZ τ) sz)) (va_A (mW AB cI cZ τ) sz)) 0 0 (va_A (mW AB cI cZ τ) sz) := by
  obtain ⟨sc, ar⟩ := τ
  refine Met.ofW (cc := cX4_least) (maxL := 4) (ret := (some .int)) (by decide) rfl ?_
  intro p e s m args below meth c s₁ B hml hv
  obtain ⟨rfl, hsz, hP, hK, hD0⟩ := hv
  have hx := B.exec
  have hb := B.bytes
  have hr := B.returns
  have hts := atoms_spec (ws := wsX4_least) B.pre
  have hown : s.vm.findClass RX4 = some m.cls := findClass_of_methodNamed B.named
  have hlocks := B.notSynchronized
  have hinX4 : ∀ w ∈ wsX40, w ∈ wsX4_least := fun _ h => List.mem_cons_of_mem _ (List.mem_append_right _ h)
  subst hsz
  have hD := hD0.self (sz := s.heap.size)
  generalize hAe : va_A (mW AB cI cZ _) s.heap.size = V at hD ⊢
  have hA : ∀ q : Nat, s.heap.size ≤ q → V q := fun q h => by rw [← hAe]; exact Or.inr h
  have hS : va_S V s.heap s.heap [] := va_S.rf
  have hl := lv_entry ([.ref (AB 0), .int b, .int (nI q)]) (n := 4) (Nat.le_of_ble_eq_true rfl)
  rw [lg_entry_eq]
  generalize (lg_sl ([.ref (AB 0), .int b, .int (nI q)]) ++ List.replicate (4 - (lg_sl ([.ref (AB 0), .int b, .int (nI q)])).length) Slot.unset).toArray = ls at hl ⊢
  have hl : lv_has ls 4 [(0, .ref (AB 0)), (1, .int b), (2, .int (nI q))] := hl
  have hP : va_P (dC, dI) vwCl (mL AB cI cZ sc ar) s.heap := hP
  have hD : va_D V (mL AB cI cZ sc ar) := hD
  refine lv_aload_n hx hb dX4_least_0 rfl (lv_at hl 0 rfl) ?_
  refine lv_iconst (v := 0) hx hb dX4_least_1 (by decide) ?_
  refine va_put (D := (dC, dI)) (ci := 4) (v := .int 0) (ty := .int) (C := RX4) (T := TX4) (N := 33) hx hb hts hinX4 tyX4 tyX4_ok nmX4 hown hK hP hD hS 0 rfl rfl 0 (by decide) (hts _ (List.mem_of_getElem? (i := 1) rfl)) (fun _ h9 => h9) rfl (by decide +kernel) rfl rfl (Nat.le_of_ble_eq_true rfl) dX4_least_2 (fun H locs hP hD hS => ?_)
  have hP : va_P (dC, dI) vwCl (mL AB cI cZ (va_up sc 0 0) ar) H := hP
  have hD : va_D V (mL AB cI cZ (va_up sc 0 0) ar) := hD
  refine lv_iload_n hx hb dX4_least_5 rfl (lv_at hl 1 rfl) ?_
  refine lv_iconst (v := 1) hx hb dX4_least_6 (by decide) ?_
  refine lv_ldc (v := (65535)) hx hb hown (hts _ (List.mem_of_getElem? (i := 2) rfl)) dX4_least_7 ?_
  refine vp_callSi (W.runS (As := [.int b, .int 1, .int (65535)]) (rest := []) ⟨hx, hb, hml, hown, hts⟩ (m_within l b 1 (65535)) (va_cwS 3 hts gX4_least_X4_within rfl rfl rfl (by decide +kernel) ⟨Nat.le_of_ble_eq_true rfl, Nat.le_of_ble_eq_true rfl⟩) ⟨bl_T, fun U hU hW => ⟨rfl, trivial⟩⟩ rfl rfl hl.1 rfl (lv_room (Nat.le_of_ble_eq_true rfl)) dX4_least_9 ⟨Nat.zero_le _, Nat.zero_le _⟩) (fun r er => ?_)
  obtain rfl : r = b2i (wiB b 1 (65535)) := er
  refine lv_if_eq (tgt := 24) hx hb dX4_least_12 (by decide) (fun c12_0 => ?_) (fun c12_0 => ?_)
  · exact absurd ((b2i_0.mp c12_0).symm.trans h1) (by decide)
  · skip
    refine lv_iload_n hx hb dX4_least_15 rfl (lv_at hl 2 rfl) ?_
    refine lv_iconst (v := 0) hx hb dX4_least_16 (by decide) ?_
    refine lv_iconst (v := 4) hx hb dX4_least_17 (by decide) ?_
    refine vp_callSi (W.runS (As := [.int (nI q), .int 0, .int 4]) (rest := []) ⟨hx, hb, hml, hown, hts⟩ (m_within l (nI q) 0 4) (va_cwS 3 hts gX4_least_X4_within rfl rfl rfl (by decide +kernel) ⟨Nat.le_of_ble_eq_true rfl, Nat.le_of_ble_eq_true rfl⟩) ⟨bl_T, fun U hU hW => ⟨rfl, trivial⟩⟩ rfl rfl hl.1 rfl (lv_room (Nat.le_of_ble_eq_true rfl)) dX4_least_18 ⟨Nat.zero_le _, Nat.zero_le _⟩) (fun r er => ?_)
    obtain rfl : r = b2i (wiB (nI q) 0 4) := er
    refine lv_if_ne (tgt := 30) hx hb dX4_least_21 (by decide) (fun c21_1 => ?_) (fun c21_1 => ?_)
    · skip
      refine lv_aload_n hx hb dX4_least_30 rfl (lv_at hl 0 rfl) ?_
      refine lv_iload_n hx hb dX4_least_31 rfl (lv_at hl 1 rfl) ?_
      refine lv_iload_n hx hb dX4_least_32 rfl (lv_at hl 2 rfl) ?_
      have hFc := m_free (τ := (va_up sc 0 0, ar)) hD hS hA
      refine va_calli (va_runV (As := [.int b, .int (nI q)]) (rest := []) ⟨hx, hb, hml, hown, hts⟩ (m_leastFor l dC dI AB cI cZ (va_up sc 0 0, ar) H.size ((frz_sc frz.rf (by decide)).mok hM) b (q := q) hq) (cwV 2 hts gX4_least_X4_leastFor rfl rfl rfl (by decide +kernel) ⟨Nat.le_of_ble_eq_true rfl, Nat.le_of_ble_eq_true rfl⟩) ⟨bm_F, va_recv hK hP (ci := 4) (q0 := 0) rfl rfl, fun U hU hW => ⟨rfl, by rw [hU], by rw [hU]; exact hP, va_K.moved hW.alike hK, hf_any hD⟩⟩ rfl rfl hl.1 rfl (lv_room (Nat.le_of_ble_eq_true rfl)) dX4_least_33 ⟨Nat.zero_le _, Nat.zero_le _⟩) hS (fun q _ h => hFc q h) hFc (fun r u t H locs ht hvm hw hB hz1 hk1 hS => ?_)
      obtain ⟨hP1, hD1⟩ := hB
      rw [ht] at hP1
      obtain ⟨er, xa, ya, za, rfl⟩ := hw
      rw [(frz_sc frz.rf (by decide)).us, (frz_sc frz.rf (by decide)).pt, (frz_sc frz.rf (by decide)).re, h] at er
      subst er
      have hP : va_P (dC, dI) vwCl (mL AB cI cZ (va_up sc 0 0) (va_up (va_up (va_up ar 19 xa) 20 ya) 21 za)) H := hP1
      have hD : va_D V (mL AB cI cZ (va_up sc 0 0) (va_up (va_up (va_up ar 19 xa) 20 ya) 21 za)) := hf_weak hD1 hFc
      clear hP1 hD1 hFc
      refine lv_istore_n (lv' := [(3, .int (o2i none)), (0, .ref (AB 0)), (1, .int b), (2, .int (nI q))]) hx hb dX4_least_36 rfl hl (by decide) rfl (fun ls hl => ?_)
      refine lv_iload_n hx hb dX4_least_37 rfl (lv_at hl 0 rfl) ?_
      refine lv_if_ge (tgt := 49) hx hb dX4_least_38 (by decide) (fun c38_2 => ?_) (fun c38_2 => ?_)
      · exact absurd c38_2 (by decide)
      · skip
        refine lv_aload_n hx hb dX4_least_41 rfl (lv_at hl 1 rfl) ?_
        refine lv_iconst (v := 2) hx hb dX4_least_42 (by decide) ?_
        have hFc := m_free (τ := (va_up sc 0 0, va_up (va_up (va_up ar 19 xa) 20 ya) 21 za)) hD hS hA
        refine va_calli (va_runV (As := [.int 2]) (rest := []) ⟨hx, hb, hml, hown, hts⟩ (m_fail l dC dI AB cI cZ (va_up sc 0 0, va_up (va_up (va_up ar 19 xa) 20 ya) 21 za) H.size 2) (cwV 1 hts gX4_least_X4_fail rfl rfl rfl (by decide +kernel) ⟨Nat.le_of_ble_eq_true rfl, Nat.le_of_ble_eq_true rfl⟩) ⟨bm_F, va_recv hK hP (ci := 4) (q0 := 0) rfl rfl, fun U hU hW => ⟨rfl, by rw [hU], by rw [hU]; exact hP, va_K.moved hW.alike hK, hf_any hD⟩⟩ rfl rfl hl.1 rfl (lv_room (Nat.le_of_ble_eq_true rfl)) dX4_least_43 ⟨Nat.zero_le _, Nat.zero_le _⟩) hS (fun q _ h => hFc q h) hFc (fun r u t H locs ht hvm hw hB hz1 hk1 hS => ?_)
        obtain ⟨hP1, hD1⟩ := hB
        rw [ht] at hP1
        obtain ⟨rfl, rfl⟩ := hw
        have hP : va_P (dC, dI) vwCl (mL AB cI cZ (va_up sc 0 2) (va_up (va_up (va_up ar 19 xa) 20 ya) 21 za)) H := hP1
        have hD : va_D V (mL AB cI cZ (va_up sc 0 2) (va_up (va_up (va_up ar 19 xa) 20 ya) 21 za)) := hf_weak hD1 hFc
        clear hP1 hD1 hFc
        refine lv_goto (tgt := 50) hx hb dX4_least_46 (by decide) ?_
        exact W.iret hx hb hr (fun t ht hW => ⟨⟨_, (va_up sc 0 2, va_up (va_up (va_up ar 19 xa) 20 ya) 21 za), rfl, ⟨rfl, xa, ya, za, rfl⟩, by rw [ht]; exact hP, hD⟩, hS.F ht⟩) hS.2.2 dX4_least_50
    · exact absurd ((b2i_0.mp c21_1).symm.trans (wi_nat (n := 4) (k := q) (by omega) (by decide))) (by decide)
set_option maxHeartbeats 4000000 in
set_option maxRecDepth 100000 in
/-- least 0 -/
theorem m_least0 (l : Launch) (dC : Nat → ClassId) (dI : Nat → Nat → Nat) (AB : Nat → Nat) (cI cZ : ClassId) (τ : MS) (sz : Nat) {th : Nat → Bool} {ef : Nat → Nat} (hM : mok th ef τ) (b : Int32) {q : Nat} (hq : q ≤ 4) (h1 : wiB b 1 65535 = true) {n : Nat} (h : few (usR th τ) (ptR ef τ) (reR τ) b q = some n) : Met l yX4_least wsX4_least ({ frames := 12, cells := 0, slots := 0, locals := 600 }) (va_Pc [.ref (AB 0), .int b, .int (nI q)] (mF dC dI AB cI cZ sz τ)) (va_Qi (fun (r : Int32) (τ2 : MS) => r = nI n ∧ ∃ x y z : Nat → Int32, τ2 = (va_up τ.1 0 0, va_up (va_up (va_up τ.2 19 x) 20 y) 21 z)) (mB dC dI AB cI cZ (va_A (mW AB cI cZ τ) sz)) (va_A (mW AB cI cZ τ) sz)) 0 0 (va_A (mW AB cI cZ τ) sz) := by
  obtain ⟨sc, ar⟩ := τ
  refine Met.ofW (cc := cX4_least) (maxL := 4) (ret := (some .int)) (by decide) rfl ?_
  intro p e s m args below meth c s₁ B hml hv
  obtain ⟨rfl, hsz, hP, hK, hD0⟩ := hv
  have hx := B.exec
  have hb := B.bytes
  have hr := B.returns
  have hts := atoms_spec (ws := wsX4_least) B.pre
  have hown : s.vm.findClass RX4 = some m.cls := findClass_of_methodNamed B.named
  have hlocks := B.notSynchronized
  have hinX4 : ∀ w ∈ wsX40, w ∈ wsX4_least := fun _ h => List.mem_cons_of_mem _ (List.mem_append_right _ h)
  subst hsz
  have hD := hD0.self (sz := s.heap.size)
  generalize hAe : va_A (mW AB cI cZ _) s.heap.size = V at hD ⊢
  have hA : ∀ q : Nat, s.heap.size ≤ q → V q := fun q h => by rw [← hAe]; exact Or.inr h
  have hS : va_S V s.heap s.heap [] := va_S.rf
  have hl := lv_entry ([.ref (AB 0), .int b, .int (nI q)]) (n := 4) (Nat.le_of_ble_eq_true rfl)
  rw [lg_entry_eq]
  generalize (lg_sl ([.ref (AB 0), .int b, .int (nI q)]) ++ List.replicate (4 - (lg_sl ([.ref (AB 0), .int b, .int (nI q)])).length) Slot.unset).toArray = ls at hl ⊢
  have hl : lv_has ls 4 [(0, .ref (AB 0)), (1, .int b), (2, .int (nI q))] := hl
  have hP : va_P (dC, dI) vwCl (mL AB cI cZ sc ar) s.heap := hP
  have hD : va_D V (mL AB cI cZ sc ar) := hD
  refine lv_aload_n hx hb dX4_least_0 rfl (lv_at hl 0 rfl) ?_
  refine lv_iconst (v := 0) hx hb dX4_least_1 (by decide) ?_
  refine va_put (D := (dC, dI)) (ci := 4) (v := .int 0) (ty := .int) (C := RX4) (T := TX4) (N := 33) hx hb hts hinX4 tyX4 tyX4_ok nmX4 hown hK hP hD hS 0 rfl rfl 0 (by decide) (hts _ (List.mem_of_getElem? (i := 1) rfl)) (fun _ h9 => h9) rfl (by decide +kernel) rfl rfl (Nat.le_of_ble_eq_true rfl) dX4_least_2 (fun H locs hP hD hS => ?_)
  have hP : va_P (dC, dI) vwCl (mL AB cI cZ (va_up sc 0 0) ar) H := hP
  have hD : va_D V (mL AB cI cZ (va_up sc 0 0) ar) := hD
  refine lv_iload_n hx hb dX4_least_5 rfl (lv_at hl 1 rfl) ?_
  refine lv_iconst (v := 1) hx hb dX4_least_6 (by decide) ?_
  refine lv_ldc (v := (65535)) hx hb hown (hts _ (List.mem_of_getElem? (i := 2) rfl)) dX4_least_7 ?_
  refine vp_callSi (W.runS (As := [.int b, .int 1, .int (65535)]) (rest := []) ⟨hx, hb, hml, hown, hts⟩ (m_within l b 1 (65535)) (va_cwS 3 hts gX4_least_X4_within rfl rfl rfl (by decide +kernel) ⟨Nat.le_of_ble_eq_true rfl, Nat.le_of_ble_eq_true rfl⟩) ⟨bl_T, fun U hU hW => ⟨rfl, trivial⟩⟩ rfl rfl hl.1 rfl (lv_room (Nat.le_of_ble_eq_true rfl)) dX4_least_9 ⟨Nat.zero_le _, Nat.zero_le _⟩) (fun r er => ?_)
  obtain rfl : r = b2i (wiB b 1 (65535)) := er
  refine lv_if_eq (tgt := 24) hx hb dX4_least_12 (by decide) (fun c12_0 => ?_) (fun c12_0 => ?_)
  · exact absurd ((b2i_0.mp c12_0).symm.trans h1) (by decide)
  · skip
    refine lv_iload_n hx hb dX4_least_15 rfl (lv_at hl 2 rfl) ?_
    refine lv_iconst (v := 0) hx hb dX4_least_16 (by decide) ?_
    refine lv_iconst (v := 4) hx hb dX4_least_17 (by decide) ?_
    refine vp_callSi (W.runS (As := [.int (nI q), .int 0, .int 4]) (rest := []) ⟨hx, hb, hml, hown, hts⟩ (m_within l (nI q) 0 4) (va_cwS 3 hts gX4_least_X4_within rfl rfl rfl (by decide +kernel) ⟨Nat.le_of_ble_eq_true rfl, Nat.le_of_ble_eq_true rfl⟩) ⟨bl_T, fun U hU hW => ⟨rfl, trivial⟩⟩ rfl rfl hl.1 rfl (lv_room (Nat.le_of_ble_eq_true rfl)) dX4_least_18 ⟨Nat.zero_le _, Nat.zero_le _⟩) (fun r er => ?_)
    obtain rfl : r = b2i (wiB (nI q) 0 4) := er
    refine lv_if_ne (tgt := 30) hx hb dX4_least_21 (by decide) (fun c21_1 => ?_) (fun c21_1 => ?_)
    · skip
      refine lv_aload_n hx hb dX4_least_30 rfl (lv_at hl 0 rfl) ?_
      refine lv_iload_n hx hb dX4_least_31 rfl (lv_at hl 1 rfl) ?_
      refine lv_iload_n hx hb dX4_least_32 rfl (lv_at hl 2 rfl) ?_
      have hFc := m_free (τ := (va_up sc 0 0, ar)) hD hS hA
      refine va_calli (va_runV (As := [.int b, .int (nI q)]) (rest := []) ⟨hx, hb, hml, hown, hts⟩ (m_leastFor l dC dI AB cI cZ (va_up sc 0 0, ar) H.size ((frz_sc frz.rf (by decide)).mok hM) b (q := q) hq) (cwV 2 hts gX4_least_X4_leastFor rfl rfl rfl (by decide +kernel) ⟨Nat.le_of_ble_eq_true rfl, Nat.le_of_ble_eq_true rfl⟩) ⟨bm_F, va_recv hK hP (ci := 4) (q0 := 0) rfl rfl, fun U hU hW => ⟨rfl, by rw [hU], by rw [hU]; exact hP, va_K.moved hW.alike hK, hf_any hD⟩⟩ rfl rfl hl.1 rfl (lv_room (Nat.le_of_ble_eq_true rfl)) dX4_least_33 ⟨Nat.zero_le _, Nat.zero_le _⟩) hS (fun q _ h => hFc q h) hFc (fun r u t H locs ht hvm hw hB hz1 hk1 hS => ?_)
      obtain ⟨hP1, hD1⟩ := hB
      rw [ht] at hP1
      obtain ⟨er, xa, ya, za, rfl⟩ := hw
      rw [(frz_sc frz.rf (by decide)).us, (frz_sc frz.rf (by decide)).pt, (frz_sc frz.rf (by decide)).re, h] at er
      subst er
      have hP : va_P (dC, dI) vwCl (mL AB cI cZ (va_up sc 0 0) (va_up (va_up (va_up ar 19 xa) 20 ya) 21 za)) H := hP1
      have hD : va_D V (mL AB cI cZ (va_up sc 0 0) (va_up (va_up (va_up ar 19 xa) 20 ya) 21 za)) := hf_weak hD1 hFc
      clear hP1 hD1 hFc
      refine lv_istore_n (lv' := [(3, .int (o2i (some n))), (0, .ref (AB 0)), (1, .int b), (2, .int (nI q))]) hx hb dX4_least_36 rfl hl (by decide) rfl (fun ls hl => ?_)
      refine lv_iload_n hx hb dX4_least_37 rfl (lv_at hl 0 rfl) ?_
      refine lv_if_ge (tgt := 49) hx hb dX4_least_38 (by decide) (fun c38_2 => ?_) (fun c38_2 => ?_)
      · skip
        refine lv_iload_n hx hb dX4_least_49 rfl (lv_at hl 0 rfl) ?_
        exact W.iret hx hb hr (fun t ht hW => ⟨⟨_, (va_up sc 0 0, va_up (va_up (va_up ar 19 xa) 20 ya) 21 za), rfl, ⟨rfl, xa, ya, za, rfl⟩, by rw [ht]; exact hP, hD⟩, hS.F ht⟩) hS.2.2 dX4_least_50
      · exact absurd c38_2 (o2i_ge (by have := few_lt h; omega))
    · exact absurd ((b2i_0.mp c21_1).symm.trans (wi_nat (n := 4) (k := q) (by omega) (by decide))) (by decide)
set_option maxHeartbeats 4000000 in
set_option maxRecDepth 100000 in
/-- partSolved -/
theorem m_partSolved (l : Launch) (dC : Nat → ClassId) (dI : Nat → Nat → Nat) (AB : Nat → Nat) (cI cZ : ClassId) (τ : MS) (sz : Nat) {th : Nat → Bool} {ef : Nat → Nat} (hM : mok th ef τ) {a : Nat} (ha : a < 8) (b w : Int32) {n : Nat} (hn : n ≤ 4) : Met l yX4_partSolved wsX4_partSolved ({ frames := 5, cells := 0, slots := 0, locals := 160 }) (va_Pc [.ref (AB 0), .int (nI a), .int b, .int w, .int (nI n)] (mF dC dI AB cI cZ sz τ)) (va_Qi (fun (r : Int32) (τ2 : MS) => r = b2i (slv (usR th τ) (ptR ef τ) (reR τ) n (ptR ef τ a b w)) ∧ ∃ x y z : Nat → Int32, τ2 = (τ.1, va_up (va_up (va_up τ.2 19 x) 20 y) 21 z)) (mB dC dI AB cI cZ (va_A (mW AB cI cZ τ) sz)) (va_A (mW AB cI cZ τ) sz)) 0 0 (va_A (mW AB cI cZ τ) sz) := by
  obtain ⟨sc, ar⟩ := τ
  refine Met.ofW (cc := cX4_partSolved) (maxL := 6) (ret := (some .boolean)) (by decide) rfl ?_
  intro p e s m args below meth c s₁ B hml hv
  obtain ⟨rfl, hsz, hP, hK, hD0⟩ := hv
  have hx := B.exec
  have hb := B.bytes
  have hr := B.returns
  have hts := atoms_spec (ws := wsX4_partSolved) B.pre
  have hown : s.vm.findClass RX4 = some m.cls := findClass_of_methodNamed B.named
  have hlocks := B.notSynchronized
  have hinX4 : ∀ w ∈ wsX40, w ∈ wsX4_partSolved := fun _ h => List.mem_cons_of_mem _ (List.mem_append_right _ h)
  subst hsz
  have hD := hD0.self (sz := s.heap.size)
  generalize hAe : va_A (mW AB cI cZ _) s.heap.size = V at hD ⊢
  have hA : ∀ q : Nat, s.heap.size ≤ q → V q := fun q h => by rw [← hAe]; exact Or.inr h
  have hS : va_S V s.heap s.heap [] := va_S.rf
  have hl := lv_entry ([.ref (AB 0), .int (nI a), .int b, .int w, .int (nI n)]) (n := 6) (Nat.le_of_ble_eq_true rfl)
  rw [lg_entry_eq]
  generalize (lg_sl ([.ref (AB 0), .int (nI a), .int b, .int w, .int (nI n)]) ++ List.replicate (6 - (lg_sl ([.ref (AB 0), .int (nI a), .int b, .int w, .int (nI n)])).length) Slot.unset).toArray = ls at hl ⊢
  have hl : lv_has ls 6 [(0, .ref (AB 0)), (1, .int (nI a)), (2, .int b), (3, .int w), (4, .int (nI n))] := hl
  have hP : va_P (dC, dI) vwCl (mL AB cI cZ sc ar) s.heap := hP
  have hD : va_D V (mL AB cI cZ sc ar) := hD
  refine lv_aload_n hx hb dX4_partSolved_0 rfl (lv_at hl 0 rfl) ?_
  refine lv_iload_n hx hb dX4_partSolved_1 rfl (lv_at hl 1 rfl) ?_
  refine lv_iload_n hx hb dX4_partSolved_2 rfl (lv_at hl 2 rfl) ?_
  refine lv_iload_n hx hb dX4_partSolved_3 rfl (lv_at hl 3 rfl) ?_
  refine vp_callSi (W.runV (As := [.int (nI a), .int b, .int w]) (rest := []) ⟨hx, hb, hml, hown, hts⟩ (m_part l dC dI AB cI cZ (sc, ar) ef ha (frz.rf.mok hM _ ha).2.1 (hM _ ha).2.2 b w) (cwV 3 hts gX4_partSolved_X4_part rfl rfl rfl (by decide +kernel) ⟨Nat.le_of_ble_eq_true rfl, Nat.le_of_ble_eq_true rfl⟩) ⟨bm_P, va_recv hK hP (ci := 4) (q0 := 0) rfl rfl, fun U hU hW => ⟨rfl, by rw [hU]; exact hP, va_K.moved hW.alike hK⟩⟩ rfl rfl hl.1 rfl (lv_room (Nat.le_of_ble_eq_true rfl)) dX4_partSolved_4 ⟨Nat.zero_le _, Nat.zero_le _⟩) (fun r er => ?_)
  obtain rfl : r = ptR ef (sc, ar) a b w := er.trans (by rw [frz.rf.pt])
  refine lv_istore (lv' := [(5, .int (ptR ef (sc, ar) a b w)), (0, .ref (AB 0)), (1, .int (nI a)), (2, .int b), (3, .int w), (4, .int (nI n))]) hx hb dX4_partSolved_7 hl (by decide) rfl (fun ls hl => ?_)
  refine lv_iload hx hb dX4_partSolved_9 (lv_at hl 0 rfl) ?_
  refine lv_if_eq (tgt := 25) hx hb dX4_partSolved_11 (by decide) (fun c11_0 => ?_) (fun c11_0 => ?_)
  · skip
    refine lv_iconst (v := 1) hx hb dX4_partSolved_25 (by decide) ?_
    refine lv_goto (tgt := 30) hx hb dX4_partSolved_26 (by decide) ?_
    exact W.zret hx hb hr rfl (fun t ht hW => ⟨⟨_, (sc, ar), rfl, ⟨by show _ = b2i (slv (usR th (sc, ar)) (ptR ef (sc, ar)) (reR (sc, ar)) n (ptR ef (sc, ar) a b w)); rw [c11_0, slv_lea, reR_0]; rfl, ar 19, ar 20, ar 21, by rw [va_up_id, va_up_id, va_up_id]⟩, by rw [ht]; exact hP, hD⟩, hS.F ht⟩) hS.2.2 dX4_partSolved_30
  · skip
    refine lv_aload_n hx hb dX4_partSolved_14 rfl (lv_at hl 1 rfl) ?_
    refine lv_iload hx hb dX4_partSolved_15 (lv_at hl 0 rfl) ?_
    refine lv_iload hx hb dX4_partSolved_17 (lv_at hl 5 rfl) ?_
    have hFc := m_free (τ := (sc, ar)) hD hS hA
    refine va_calli (va_runV (As := [.int (ptR ef (sc, ar) a b w), .int (nI n)]) (rest := []) ⟨hx, hb, hml, hown, hts⟩ (m_solved l dC dI AB cI cZ (sc, ar) s.heap.size (frz.rf.mok hM) (ptR ef (sc, ar) a b w) (n := n) hn) (cwV 2 hts gX4_partSolved_X4_solved rfl rfl rfl (by decide +kernel) ⟨Nat.le_of_ble_eq_true rfl, Nat.le_of_ble_eq_true rfl⟩) ⟨bm_F, va_recv hK hP (ci := 4) (q0 := 0) rfl rfl, fun U hU hW => ⟨rfl, by rw [hU], by rw [hU]; exact hP, va_K.moved hW.alike hK, hf_any hD⟩⟩ rfl rfl hl.1 rfl (lv_room (Nat.le_of_ble_eq_true rfl)) dX4_partSolved_19 ⟨Nat.zero_le _, Nat.zero_le _⟩) hS (fun q _ h => hFc q h) hFc (fun r u t H locs ht hvm hw hB hz1 hk1 hS => ?_)
    obtain ⟨hP1, hD1⟩ := hB
    rw [ht] at hP1
    obtain ⟨er, xa, ya, za, rfl⟩ := hw
    rw [frz.rf.us, frz.rf.pt, frz.rf.re] at er
    subst er
    have hP : va_P (dC, dI) vwCl (mL AB cI cZ sc (va_up (va_up (va_up ar 19 xa) 20 ya) 21 za)) H := hP1
    have hD : va_D V (mL AB cI cZ sc (va_up (va_up (va_up ar 19 xa) 20 ya) 21 za)) := hf_weak hD1 hFc
    clear hP1 hD1 hFc
    refine lv_if_eq (tgt := 29) hx hb dX4_partSolved_22 (by decide) (fun c22_1 => ?_) (fun c22_1 => ?_)
    · skip
      refine lv_iconst (v := 0) hx hb dX4_partSolved_29 (by decide) ?_
      exact W.zret hx hb hr rfl (fun t ht hW => ⟨⟨_, (sc, va_up (va_up (va_up ar 19 xa) 20 ya) 21 za), rfl, ⟨by show _ = b2i (slv (usR th (sc, ar)) (ptR ef (sc, ar)) (reR (sc, ar)) n (ptR ef (sc, ar) a b w)); rw [b2i_0.mp c22_1]; rfl, xa, ya, za, rfl⟩, by rw [ht]; exact hP, hD⟩, hS.F ht⟩) hS.2.2 dX4_partSolved_30
    · skip
      refine lv_iconst (v := 1) hx hb dX4_partSolved_25 (by decide) ?_
      refine lv_goto (tgt := 30) hx hb dX4_partSolved_26 (by decide) ?_
      exact W.zret hx hb hr rfl (fun t ht hW => ⟨⟨_, (sc, va_up (va_up (va_up ar 19 xa) 20 ya) 21 za), rfl, ⟨by show _ = b2i (slv (usR th (sc, ar)) (ptR ef (sc, ar)) (reR (sc, ar)) n (ptR ef (sc, ar) a b w)); rw [b2i_n0.mp c22_1]; rfl, xa, ya, za, rfl⟩, by rw [ht]; exact hP, hD⟩, hS.F ht⟩) hS.2.2 dX4_partSolved_30
set_option maxHeartbeats 4000000 in
set_option maxRecDepth 100000 in
/-- depthOf -/
theorem m_depthOf (l : Launch) {k : Nat} (hk : k < 32) : Met l yX4_depthOf wsX4_depthOf ({ frames := 0, cells := 0, slots := 0, locals := 0 }) (va_Pc [.int (nI k)] (fun _ => True)) (vp_Si (fun r => r = nI (Nat.log2 k))) 0 0 (fun _ => False) := by
  refine Met.ofW (cc := cX4_depthOf) (maxL := 3) (ret := (some .int)) (by decide) rfl ?_
  intro p e s m args below meth c s₁ B hml hv
  obtain ⟨rfl, -⟩ := hv
  have hx := B.exec
  have hb := B.bytes
  have hr := B.returns
  have hts := atoms_spec (ws := wsX4_depthOf) B.pre
  have hown : s.vm.findClass RX4 = some m.cls := findClass_of_methodNamed B.named
  have hlocks := B.notSynchronized
  have hl := lv_entry ([.int (nI k)]) (n := 3) (Nat.le_of_ble_eq_true rfl)
  rw [lg_entry_eq]
  generalize (lg_sl ([.int (nI k)]) ++ List.replicate (3 - (lg_sl ([.int (nI k)])).length) Slot.unset).toArray = ls at hl ⊢
  have hl : lv_has ls 3 [(0, .int (nI k))] := hl
  refine lv_iconst (v := 0) hx hb dX4_depthOf_0 (by decide) ?_
  refine lv_istore_n (lv' := [(1, .int 0), (0, .int (nI k))]) hx hb dX4_depthOf_1 rfl hl (by decide) rfl (fun ls hl => ?_)
  refine lv_iload_n hx hb dX4_depthOf_2 rfl (lv_at hl 1 rfl) ?_
  refine lv_istore_n (lv' := [(2, .int (nI k)), (1, .int 0), (0, .int (nI k))]) hx hb dX4_depthOf_3 rfl hl (by decide) rfl (fun ls hl => ?_)
  refine w_loopP (pc := 4) (Nat.log2 k) (fun j ls => lv_has ls 3 [(0, .int (nI k)), (1, .int (nI j)), (2, .int (nI (k / 2 ^ j)))]) ?_ 0 (Nat.zero_le _) ls (by rw [Nat.pow_zero, Nat.div_one]; exact lv_sub hl [2, 1, 0] rfl)
  intro j ls hk2 hl ih
  obtain ⟨q1, q2, q3⟩ := dep_ok k hk j hk2
  refine lv_iload_n hx hb dX4_depthOf_4 rfl (lv_at hl 2 rfl) ?_
  refine lv_iconst (v := 1) hx hb dX4_depthOf_5 (by decide) ?_
  refine lv_icmp_le (tgt := 19) hx hb dX4_depthOf_6 (by decide) (fun c6_0 => ?_) (fun c6_0 => ?_)
  · skip
    obtain rfl : j = Nat.log2 k := q1.mp ((nI_leI (b := 1) (by omega) (by decide)).mp c6_0)
    refine lv_iload_n hx hb dX4_depthOf_19 rfl (lv_at hl 1 rfl) ?_
    exact W.iret hx hb hr (fun t ht hW => ⟨_, rfl, rfl, ht⟩) (fun q h => nomatch h) dX4_depthOf_20
  · skip
    have hne : ¬ j = Nat.log2 k := fun z9 => c6_0 (nI_le (b := 1) (q1.mpr z9) (by decide))
    obtain ⟨y1, ey1⟩ : ∃ y : Int32, y = (nI j) + 1 := ⟨_, rfl⟩
    refine lv_iinc (v := y1) (lv' := [(1, .int y1), (0, .int (nI k)), (2, .int (nI (k / 2 ^ j)))]) hx hb dX4_depthOf_9 hl (k := 1) rfl (by rw [ey1]; rfl) (by decide) rfl (fun ls hl => ?_)
    obtain rfl : y1 = nI (j + 1) := ey1.trans (nI_1 j)
    refine lv_iload_n hx hb dX4_depthOf_12 rfl (lv_at hl 2 rfl) ?_
    refine lv_iconst (v := 2) hx hb dX4_depthOf_13 (by decide) ?_
    refine lv_idiv hx hb dX4_depthOf_14 (by decide) ?_
    refine lv_topi (fun y2 ey2 => ?_)
    obtain rfl : y2 = nI (k / 2 ^ j / 2) := ey2.trans (half_ok _ q3)
    refine lv_istore_n (lv' := [(2, .int (nI (k / 2 ^ j / 2))), (1, .int (nI (j + 1))), (0, .int (nI k))]) hx hb dX4_depthOf_15 rfl hl (by decide) rfl (fun ls hl => ?_)
    refine lv_goto (tgt := 4) hx hb dX4_depthOf_16 (by decide) ?_
    exact ih ls (by rw [← q2]; exact lv_sub hl [2, 1, 0] rfl) (by omega)
set_option maxHeartbeats 4000000 in
set_option maxRecDepth 100000 in
/-- choose -/
theorem m_choose (l : Launch) (dC : Nat → ClassId) (dI : Nat → Nat → Nat) (AB : Nat → Nat) (cI cZ : ClassId) (τ : MS) (sz : Nat) {th : Nat → Bool} {ef : Nat → Nat} (hM : mok th ef τ) {k : Nat} (hk0 : 0 < k) (hk : k < 32) {n : Nat} (hn : n ≤ 4) (hs : τ.2 22 k = 0 ∨ slv (usR th τ) (ptR ef τ) (reR τ) n (τ.2 22 k) = true) : Met l yX4_choose wsX4_choose ({ frames := 6, cells := 0, slots := 0, locals := 220 }) (va_Pc [.ref (AB 0), .int (nI k), .int (nI n)] (mF dC dI AB cI cZ sz τ)) (va_Qv (fun (τ2 : MS) => ∃ x y z : Nat → Int32, τ2 = (τ.1, va_up (va_up (va_up (va_up (va_up τ.2 19 x) 20 y) 21 z) 22 (upd (upd (τ.2 22) (2 * k) (chO (ptR ef τ) (τ.2 22 k) 0 (dcO (usR th τ) (ptR ef τ) (reR τ) n (τ.2 22 k)))) (2 * k + 1) (chO (ptR ef τ) (τ.2 22 k) 1 (dcO (usR th τ) (ptR ef τ) (reR τ) n (τ.2 22 k))))) 23 (upd (τ.2 23) k (o2i (dcO (usR th τ) (ptR ef τ) (reR τ) n (τ.2 22 k)))))) (mB dC dI AB cI cZ (va_A (mW AB cI cZ τ) sz)) (va_A (mW AB cI cZ τ) sz)) 0 0 (va_A (mW AB cI cZ τ) sz) := by
  obtain ⟨sc, ar⟩ := τ
  refine Met.ofW (cc := cX4_choose) (maxL := 5) (ret := none) (by decide) rfl ?_
  intro p e s m args below meth c s₁ B hml hv
  obtain ⟨rfl, hsz, hP, hK, hD0⟩ := hv
  have hx := B.exec
  have hb := B.bytes
  have hr := B.returns
  have hts := atoms_spec (ws := wsX4_choose) B.pre
  have hown : s.vm.findClass RX4 = some m.cls := findClass_of_methodNamed B.named
  have hlocks := B.notSynchronized
  have hinX4 : ∀ w ∈ wsX40, w ∈ wsX4_choose := fun _ h => List.mem_cons_of_mem _ (List.mem_append_right _ h)
  subst hsz
  have hD := hD0.self (sz := s.heap.size)
  generalize hAe : va_A (mW AB cI cZ _) s.heap.size = V at hD ⊢
  have hA : ∀ q : Nat, s.heap.size ≤ q → V q := fun q h => by rw [← hAe]; exact Or.inr h
  have hS : va_S V s.heap s.heap [] := va_S.rf
  have hl := lv_entry ([.ref (AB 0), .int (nI k), .int (nI n)]) (n := 5) (Nat.le_of_ble_eq_true rfl)
  rw [lg_entry_eq]
  generalize (lg_sl ([.ref (AB 0), .int (nI k), .int (nI n)]) ++ List.replicate (5 - (lg_sl ([.ref (AB 0), .int (nI k), .int (nI n)])).length) Slot.unset).toArray = ls at hl ⊢
  have hl : lv_has ls 5 [(0, .ref (AB 0)), (1, .int (nI k)), (2, .int (nI n))] := hl
  have hP : va_P (dC, dI) vwCl (mL AB cI cZ sc ar) s.heap := hP
  have hD : va_D V (mL AB cI cZ sc ar) := hD
  refine lv_aload_n hx hb dX4_choose_0 rfl (lv_at hl 0 rfl) ?_
  refine va_get (D := (dC, dI)) (ci := 4) (v := .ref (AB 22)) (C := RX4) (T := TX4) (N := 33) hx hb hts hinX4 hown hK hP 0 rfl rfl 22 (by decide) (hts _ (List.mem_of_getElem? (i := 1) rfl)) (fun _ h9 => h9) rfl dX4_choose_1 ?_
  refine lv_iload_n hx hb dX4_choose_4 rfl (lv_at hl 1 rfl) ?_
  refine va_iald hx hb hK hP 18 0 rfl rfl (vp_in_nI (show k < 64 by omega) (by decide)) dX4_choose_5 ?_
  rw [nI_clamp (show k < 2 ^ 31 by have := (show k < 64 by omega); omega)]
  refine lv_istore_n (lv' := [(3, .int (ar 22 k)), (0, .ref (AB 0)), (1, .int (nI k)), (2, .int (nI n))]) hx hb dX4_choose_6 rfl hl (by decide) rfl (fun ls hl => ?_)
  refine lv_aload_n hx hb dX4_choose_7 rfl (lv_at hl 1 rfl) ?_
  refine va_get (D := (dC, dI)) (ci := 4) (v := .ref (AB 23)) (C := RX4) (T := TX4) (N := 33) hx hb hts hinX4 hown hK hP 0 rfl rfl 23 (by decide) (hts _ (List.mem_of_getElem? (i := 2) rfl)) (fun _ h9 => h9) rfl dX4_choose_8 ?_
  refine lv_iload_n hx hb dX4_choose_11 rfl (lv_at hl 2 rfl) ?_
  refine lv_iconst (v := (-1)) hx hb dX4_choose_12 (by decide) ?_
  refine va_iast hx hb hK hP hD hS 19 0 rfl rfl (vp_in_nI (show k < 64 by omega) (by decide)) dX4_choose_13 (fun H locs hP hD hS => ?_)
  rw [nI_clamp (show k < 2 ^ 31 by have := (show k < 64 by omega); omega)] at hP hD
  have hP : va_P (dC, dI) vwCl (mL AB cI cZ sc (va_up ar 23 (upd (ar 23) k (-1)))) H := hP
  have hD : va_D V (mL AB cI cZ sc (va_up ar 23 (upd (ar 23) k (-1)))) := hD
  refine lv_aload_n hx hb dX4_choose_14 rfl (lv_at hl 1 rfl) ?_
  refine va_get (D := (dC, dI)) (ci := 4) (v := .ref (AB 22)) (C := RX4) (T := TX4) (N := 33) hx hb hts hinX4 hown hK hP 0 rfl rfl 22 (by decide) (hts _ (List.mem_of_getElem? (i := 1) rfl)) (fun _ h9 => h9) rfl dX4_choose_15 ?_
  refine lv_iconst (v := 2) hx hb dX4_choose_18 (by decide) ?_
  refine lv_iload_n hx hb dX4_choose_19 rfl (lv_at hl 2 rfl) ?_
  refine lv_imul hx hb dX4_choose_20 ?_
  refine lv_topi (fun y0 ey0 => ?_)
  obtain rfl : y0 = nI (2 * k) := ey0.trans (pk_mul 2 k)
  refine lv_iconst (v := 0) hx hb dX4_choose_21 (by decide) ?_
  refine va_iast hx hb hK hP hD hS 18 0 rfl rfl (vp_in_nI (show (2 * k) < 64 by omega) (by decide)) dX4_choose_22 (fun H locs hP hD hS => ?_)
  rw [nI_clamp (show (2 * k) < 2 ^ 31 by have := (show (2 * k) < 64 by omega); omega)] at hP hD
  have hP : va_P (dC, dI) vwCl (mL AB cI cZ sc (va_up (va_up ar 22 (upd (ar 22) (2 * k) 0)) 23 (upd (ar 23) k (-1)))) H := hP
  have hD : va_D V (mL AB cI cZ sc (va_up (va_up ar 22 (upd (ar 22) (2 * k) 0)) 23 (upd (ar 23) k (-1)))) := hD
  refine lv_aload_n hx hb dX4_choose_23 rfl (lv_at hl 1 rfl) ?_
  refine va_get (D := (dC, dI)) (ci := 4) (v := .ref (AB 22)) (C := RX4) (T := TX4) (N := 33) hx hb hts hinX4 hown hK hP 0 rfl rfl 22 (by decide) (hts _ (List.mem_of_getElem? (i := 1) rfl)) (fun _ h9 => h9) rfl dX4_choose_24 ?_
  refine lv_iconst (v := 2) hx hb dX4_choose_27 (by decide) ?_
  refine lv_iload_n hx hb dX4_choose_28 rfl (lv_at hl 2 rfl) ?_
  refine lv_imul hx hb dX4_choose_29 ?_
  refine lv_topi (fun y1 ey1 => ?_)
  obtain rfl : y1 = nI (2 * k) := ey1.trans (pk_mul 2 k)
  refine lv_iconst (v := 1) hx hb dX4_choose_30 (by decide) ?_
  refine lv_iadd hx hb dX4_choose_31 ?_
  refine lv_topi (fun y2 ey2 => ?_)
  obtain rfl : y2 = nI (2 * k + 1) := ey2.trans (nI_1 (2 * k))
  refine lv_iconst (v := 0) hx hb dX4_choose_32 (by decide) ?_
  refine va_iast hx hb hK hP hD hS 18 0 rfl rfl (vp_in_nI (show (2 * k + 1) < 64 by omega) (by decide)) dX4_choose_33 (fun H locs hP hD hS => ?_)
  rw [nI_clamp (show (2 * k + 1) < 2 ^ 31 by have := (show (2 * k + 1) < 64 by omega); omega)] at hP hD
  have hP : va_P (dC, dI) vwCl (mL AB cI cZ sc (va_up (va_up ar 22 (upd (upd (ar 22) (2 * k) 0) (2 * k + 1) 0)) 23 (upd (ar 23) k (-1)))) H := hP
  have hD : va_D V (mL AB cI cZ sc (va_up (va_up ar 22 (upd (upd (ar 22) (2 * k) 0) (2 * k + 1) 0)) 23 (upd (ar 23) k (-1)))) := hD
  refine lv_iload_n hx hb dX4_choose_34 rfl (lv_at hl 0 rfl) ?_
  refine lv_if_eq (tgt := 46) hx hb dX4_choose_35 (by decide) (fun c35_3 => ?_) (fun c35_3 => ?_)
  · skip
    have hdc : dcO (usR th (sc, ar)) (ptR ef (sc, ar)) (reR (sc, ar)) n (ar 22 k) = none := if_pos (Or.inl c35_3)
    exact W.vret hx hb hr (fun t ht hW => ⟨⟨(sc, va_up (va_up ar 22 (upd (upd (ar 22) (2 * k) 0) (2 * k + 1) 0)) 23 (upd (ar 23) k (-1))), rfl, ⟨ar 19, ar 20, ar 21, by show _ = (sc, va_up (va_up (va_up (va_up (va_up ar 19 (ar 19)) 20 (ar 20)) 21 (ar 21)) 22 _) 23 _); rw [hdc, va_up_id, va_up_id, va_up_id]; rfl⟩, by rw [ht]; exact hP, hD⟩, hS.F ht⟩) hS.2.2 dX4_choose_46
  · skip
    refine lv_aload_n hx hb dX4_choose_38 rfl (lv_at hl 1 rfl) ?_
    refine lv_iload_n hx hb dX4_choose_39 rfl (lv_at hl 0 rfl) ?_
    refine vp_callSi (W.runV (As := [.int (ar 22 k)]) (rest := []) ⟨hx, hb, hml, hown, hts⟩ (m_reached l dC dI AB cI cZ (sc, va_up (va_up ar 22 (upd (upd (ar 22) (2 * k) 0) (2 * k + 1) 0)) 23 (upd (ar 23) k (-1))) (ar 22 k)) (cwV 1 hts gX4_choose_X4_reached rfl rfl rfl (by decide +kernel) ⟨Nat.le_of_ble_eq_true rfl, Nat.le_of_ble_eq_true rfl⟩) ⟨bm_P, va_recv hK hP (ci := 4) (q0 := 0) rfl rfl, fun U hU hW => ⟨rfl, by rw [hU]; exact hP, va_K.moved hW.alike hK⟩⟩ rfl rfl hl.1 rfl (lv_room (Nat.le_of_ble_eq_true rfl)) dX4_choose_40 ⟨Nat.zero_le _, Nat.zero_le _⟩) (fun r er => ?_)
    obtain rfl : r = b2i (reR (sc, ar) (ar 22 k)) := er.trans (by rw [(frz_up (frz_up frz.rf (by decide)) (by decide)).re])
    refine lv_if_eq (tgt := 47) hx hb dX4_choose_43 (by decide) (fun c43_4 => ?_) (fun c43_4 => ?_)
    · skip
      refine lv_iconst (v := 0) hx hb dX4_choose_47 (by decide) ?_
      refine lv_istore (lv' := [(4, .int 0), (3, .int (ar 22 k)), (0, .ref (AB 0)), (1, .int (nI k)), (2, .int (nI n))]) hx hb dX4_choose_48 hl (by decide) rfl (fun ls hl => ?_)
      have hb0 : ¬ ar 22 k = 0 := c35_3
      have hre : reR (sc, ar) (ar 22 k) = false := b2i_0.mp c43_4
      have hsl : slv (usR th (sc, ar)) (ptR ef (sc, ar)) (reR (sc, ar)) n (ar 22 k) = true := hs.resolve_left hb0
      obtain ⟨a0, hle⟩ : ∃ a0, lea (usR th (sc, ar)) (ptR ef (sc, ar)) (reR (sc, ar)) n (ar 22 k) = some a0 := by rw [slv_lea, hre, Bool.false_or] at hsl; exact Option.isSome_iff_exists.mp hsl
      obtain ⟨n1, rfl⟩ : ∃ n1, n = n1 + 1 := by cases n with | zero => cases hle | succ n1 => exact ⟨n1, rfl⟩
      obtain ⟨ha08, hyes, hnos⟩ := lea_first hle
      refine w_loopH (pc := 50) a0 (fun a ls H locs => ∃ xa ya za : Nat → Int32, va_P (dC, dI) vwCl (mL AB cI cZ sc (va_up (va_up (va_up (va_up (va_up ar 19 xa) 20 ya) 21 za) 22 (upd (upd (ar 22) (2 * k) 0) (2 * k + 1) 0)) 23 (upd (ar 23) k (-1)))) H ∧ va_D V (mL AB cI cZ sc (va_up (va_up (va_up (va_up (va_up ar 19 xa) 20 ya) 21 za) 22 (upd (upd (ar 22) (2 * k) 0) (2 * k + 1) 0)) 23 (upd (ar 23) k (-1)))) ∧ va_S V s.heap H locs ∧ lv_has ls 5 [(0, .ref (AB 0)), (1, .int (nI k)), (2, .int (nI (n1 + 1))), (3, .int (ar 22 k)), (4, .int (nI a))]) ?_ 0 (Nat.zero_le _) ls _ _ ⟨ar 19, ar 20, ar 21, hP, hD, hS, lv_sub hl [2, 3, 4, 1, 0] rfl⟩
      intro a ls H locs hk2 hI ih
      obtain ⟨xa, ya, za, hP, hD, hS, hl⟩ := hI
      have ha8 : a < 8 := by omega
      refine lv_aload_n hx hb dX4_choose_50 rfl (lv_at hl 0 rfl) ?_
      refine lv_iload hx hb dX4_choose_51 (lv_at hl 4 rfl) ?_
      refine lv_iload_n hx hb dX4_choose_53 rfl (lv_at hl 3 rfl) ?_
      refine vp_callSi (W.runV (As := [.int (nI a), .int (ar 22 k)]) (rest := []) ⟨hx, hb, hml, hown, hts⟩ (m_usable l dC dI AB cI cZ (sc, va_up (va_up (va_up (va_up (va_up ar 19 xa) 20 ya) 21 za) 22 (upd (upd (ar 22) (2 * k) 0) (2 * k + 1) 0)) 23 (upd (ar 23) k (-1))) th ha8 ((frz_up (frz_up (frz_up (frz_up (frz_up frz.rf (by decide)) (by decide)) (by decide)) (by decide)) (by decide)).mok hM _ ha8).1 (ar 22 k)) (cwV 2 hts gX4_choose_X4_usable rfl rfl rfl (by decide +kernel) ⟨Nat.le_of_ble_eq_true rfl, Nat.le_of_ble_eq_true rfl⟩) ⟨bm_P, va_recv hK hP (ci := 4) (q0 := 0) rfl rfl, fun U hU hW => ⟨rfl, by rw [hU]; exact hP, va_K.moved hW.alike hK⟩⟩ rfl rfl hl.1 rfl (lv_room (Nat.le_of_ble_eq_true rfl)) dX4_choose_54 ⟨Nat.zero_le _, Nat.zero_le _⟩) (fun r er => ?_)
      obtain rfl : r = b2i (usR th (sc, ar) a (ar 22 k)) := er.trans (by rw [(frz_up (frz_up (frz_up (frz_up (frz_up frz.rf (by decide)) (by decide)) (by decide)) (by decide)) (by decide)).us])
      refine lv_if_eq (tgt := 88) hx hb dX4_choose_57 (by decide) (fun c57_5 => ?_) (fun c57_5 => ?_)
      · skip
        obtain ⟨y6, ey6⟩ : ∃ y : Int32, y = (nI a) + 1 := ⟨_, rfl⟩
        refine lv_iinc (v := y6) (lv' := [(4, .int y6), (0, .ref (AB 0)), (1, .int (nI k)), (2, .int (nI (n1 + 1))), (3, .int (ar 22 k))]) hx hb dX4_choose_88 hl (k := 4) rfl (by rw [ey6]; rfl) (by decide) rfl (fun ls hl => ?_)
        obtain rfl : y6 = nI (a + 1) := ey6.trans (nI_1 a)
        refine lv_goto (tgt := 50) hx hb dX4_choose_91 (by decide) ?_
        have hno : (usR th (sc, ar) a (ar 22 k) && (slv (usR th (sc, ar)) (ptR ef (sc, ar)) (reR (sc, ar)) n1 (ptR ef (sc, ar) a (ar 22 k) 0) && slv (usR th (sc, ar)) (ptR ef (sc, ar)) (reR (sc, ar)) n1 (ptR ef (sc, ar) a (ar 22 k) 1))) = false := by rw [b2i_0.mp c57_5]; rfl
        exact ih ls H locs ⟨xa, ya, za, hP, hD, hS, lv_sub hl [1, 2, 3, 4, 0] rfl⟩ (by rcases Nat.lt_or_ge a a0 with z9 | z9; exact z9; rw [show a = a0 by omega, hyes] at hno; cases hno)
      · skip
        refine lv_aload_n hx hb dX4_choose_60 rfl (lv_at hl 0 rfl) ?_
        refine lv_iload hx hb dX4_choose_61 (lv_at hl 4 rfl) ?_
        refine lv_iload_n hx hb dX4_choose_63 rfl (lv_at hl 3 rfl) ?_
        refine lv_iconst (v := 0) hx hb dX4_choose_64 (by decide) ?_
        refine lv_iload_n hx hb dX4_choose_65 rfl (lv_at hl 2 rfl) ?_
        refine lv_iconst (v := 1) hx hb dX4_choose_66 (by decide) ?_
        refine lv_isub hx hb dX4_choose_67 ?_
        refine lv_topi (fun y7 ey7 => ?_)
        obtain rfl : y7 = nI n1 := ey7.trans (nI_pred n1)
        have hFc := m_free (τ := (sc, va_up (va_up (va_up (va_up (va_up ar 19 xa) 20 ya) 21 za) 22 (upd (upd (ar 22) (2 * k) 0) (2 * k + 1) 0)) 23 (upd (ar 23) k (-1)))) hD hS hA
        refine va_calli (va_runV (As := [.int (nI a), .int (ar 22 k), .int 0, .int (nI n1)]) (rest := []) ⟨hx, hb, hml, hown, hts⟩ (m_partSolved l dC dI AB cI cZ (sc, va_up (va_up (va_up (va_up (va_up ar 19 xa) 20 ya) 21 za) 22 (upd (upd (ar 22) (2 * k) 0) (2 * k + 1) 0)) 23 (upd (ar 23) k (-1))) H.size ((frz_up (frz_up (frz_up (frz_up (frz_up frz.rf (by decide)) (by decide)) (by decide)) (by decide)) (by decide)).mok hM) (a := a) ha8 (ar 22 k) 0 (n := n1) (by omega)) (cwV 4 hts gX4_choose_X4_partSolved rfl rfl rfl (by decide +kernel) ⟨Nat.le_of_ble_eq_true rfl, Nat.le_of_ble_eq_true rfl⟩) ⟨bm_F, va_recv hK hP (ci := 4) (q0 := 0) rfl rfl, fun U hU hW => ⟨rfl, by rw [hU], by rw [hU]; exact hP, va_K.moved hW.alike hK, hf_any hD⟩⟩ rfl rfl hl.1 rfl (lv_room (Nat.le_of_ble_eq_true rfl)) dX4_choose_68 ⟨Nat.zero_le _, Nat.zero_le _⟩) hS (fun q _ h => hFc q h) hFc (fun r u t H locs ht hvm hw hB hz1 hk1 hS => ?_)
        obtain ⟨hP1, hD1⟩ := hB
        rw [ht] at hP1
        obtain ⟨er, xb, yb, zb, rfl⟩ := hw
        rw [(frz_up (frz_up (frz_up (frz_up (frz_up frz.rf (by decide)) (by decide)) (by decide)) (by decide)) (by decide)).us, (frz_up (frz_up (frz_up (frz_up (frz_up frz.rf (by decide)) (by decide)) (by decide)) (by decide)) (by decide)).pt, (frz_up (frz_up (frz_up (frz_up (frz_up frz.rf (by decide)) (by decide)) (by decide)) (by decide)) (by decide)).re] at er
        subst er
        have hP : va_P (dC, dI) vwCl (mL AB cI cZ sc (va_up (va_up (va_up (va_up (va_up ar 19 xb) 20 yb) 21 zb) 22 (upd (upd (ar 22) (2 * k) 0) (2 * k + 1) 0)) 23 (upd (ar 23) k (-1)))) H := hP1
        have hD : va_D V (mL AB cI cZ sc (va_up (va_up (va_up (va_up (va_up ar 19 xb) 20 yb) 21 zb) 22 (upd (upd (ar 22) (2 * k) 0) (2 * k + 1) 0)) 23 (upd (ar 23) k (-1)))) := hf_weak hD1 hFc
        clear hP1 hD1 hFc
        refine lv_if_eq (tgt := 88) hx hb dX4_choose_71 (by decide) (fun c71_8 => ?_) (fun c71_8 => ?_)
        · skip
          obtain ⟨y9, ey9⟩ : ∃ y : Int32, y = (nI a) + 1 := ⟨_, rfl⟩
          refine lv_iinc (v := y9) (lv' := [(4, .int y9), (0, .ref (AB 0)), (1, .int (nI k)), (2, .int (nI (n1 + 1))), (3, .int (ar 22 k))]) hx hb dX4_choose_88 hl (k := 4) rfl (by rw [ey9]; rfl) (by decide) rfl (fun ls hl => ?_)
          obtain rfl : y9 = nI (a + 1) := ey9.trans (nI_1 a)
          refine lv_goto (tgt := 50) hx hb dX4_choose_91 (by decide) ?_
          have hno : (usR th (sc, ar) a (ar 22 k) && (slv (usR th (sc, ar)) (ptR ef (sc, ar)) (reR (sc, ar)) n1 (ptR ef (sc, ar) a (ar 22 k) 0) && slv (usR th (sc, ar)) (ptR ef (sc, ar)) (reR (sc, ar)) n1 (ptR ef (sc, ar) a (ar 22 k) 1))) = false := by rw [b2i_n0.mp c57_5, b2i_0.mp c71_8]; rfl
          exact ih ls H locs ⟨xb, yb, zb, hP, hD, hS, lv_sub hl [1, 2, 3, 4, 0] rfl⟩ (by rcases Nat.lt_or_ge a a0 with z9 | z9; exact z9; rw [show a = a0 by omega, hyes] at hno; cases hno)
        · skip
          refine lv_aload_n hx hb dX4_choose_74 rfl (lv_at hl 0 rfl) ?_
          refine lv_iload hx hb dX4_choose_75 (lv_at hl 4 rfl) ?_
          refine lv_iload_n hx hb dX4_choose_77 rfl (lv_at hl 3 rfl) ?_
          refine lv_iconst (v := 1) hx hb dX4_choose_78 (by decide) ?_
          refine lv_iload_n hx hb dX4_choose_79 rfl (lv_at hl 2 rfl) ?_
          refine lv_iconst (v := 1) hx hb dX4_choose_80 (by decide) ?_
          refine lv_isub hx hb dX4_choose_81 ?_
          refine lv_topi (fun y10 ey10 => ?_)
          obtain rfl : y10 = nI n1 := ey10.trans (nI_pred n1)
          have hFc := m_free (τ := (sc, va_up (va_up (va_up (va_up (va_up ar 19 xb) 20 yb) 21 zb) 22 (upd (upd (ar 22) (2 * k) 0) (2 * k + 1) 0)) 23 (upd (ar 23) k (-1)))) hD hS hA
          refine va_calli (va_runV (As := [.int (nI a), .int (ar 22 k), .int 1, .int (nI n1)]) (rest := []) ⟨hx, hb, hml, hown, hts⟩ (m_partSolved l dC dI AB cI cZ (sc, va_up (va_up (va_up (va_up (va_up ar 19 xb) 20 yb) 21 zb) 22 (upd (upd (ar 22) (2 * k) 0) (2 * k + 1) 0)) 23 (upd (ar 23) k (-1))) H.size ((frz_up (frz_up (frz_up (frz_up (frz_up frz.rf (by decide)) (by decide)) (by decide)) (by decide)) (by decide)).mok hM) (a := a) ha8 (ar 22 k) 1 (n := n1) (by omega)) (cwV 4 hts gX4_choose_X4_partSolved rfl rfl rfl (by decide +kernel) ⟨Nat.le_of_ble_eq_true rfl, Nat.le_of_ble_eq_true rfl⟩) ⟨bm_F, va_recv hK hP (ci := 4) (q0 := 0) rfl rfl, fun U hU hW => ⟨rfl, by rw [hU], by rw [hU]; exact hP, va_K.moved hW.alike hK, hf_any hD⟩⟩ rfl rfl hl.1 rfl (lv_room (Nat.le_of_ble_eq_true rfl)) dX4_choose_82 ⟨Nat.zero_le _, Nat.zero_le _⟩) hS (fun q _ h => hFc q h) hFc (fun r u t H locs ht hvm hw hB hz1 hk1 hS => ?_)
          obtain ⟨hP1, hD1⟩ := hB
          rw [ht] at hP1
          obtain ⟨er, xc, yc, zc, rfl⟩ := hw
          rw [(frz_up (frz_up (frz_up (frz_up (frz_up frz.rf (by decide)) (by decide)) (by decide)) (by decide)) (by decide)).us, (frz_up (frz_up (frz_up (frz_up (frz_up frz.rf (by decide)) (by decide)) (by decide)) (by decide)) (by decide)).pt, (frz_up (frz_up (frz_up (frz_up (frz_up frz.rf (by decide)) (by decide)) (by decide)) (by decide)) (by decide)).re] at er
          subst er
          have hP : va_P (dC, dI) vwCl (mL AB cI cZ sc (va_up (va_up (va_up (va_up (va_up ar 19 xc) 20 yc) 21 zc) 22 (upd (upd (ar 22) (2 * k) 0) (2 * k + 1) 0)) 23 (upd (ar 23) k (-1)))) H := hP1
          have hD : va_D V (mL AB cI cZ sc (va_up (va_up (va_up (va_up (va_up ar 19 xc) 20 yc) 21 zc) 22 (upd (upd (ar 22) (2 * k) 0) (2 * k + 1) 0)) 23 (upd (ar 23) k (-1)))) := hf_weak hD1 hFc
          clear hP1 hD1 hFc
          refine lv_if_ne (tgt := 94) hx hb dX4_choose_85 (by decide) (fun c85_11 => ?_) (fun c85_11 => ?_)
          · skip
            have hya : (usR th (sc, ar) a (ar 22 k) && (slv (usR th (sc, ar)) (ptR ef (sc, ar)) (reR (sc, ar)) n1 (ptR ef (sc, ar) a (ar 22 k) 0) && slv (usR th (sc, ar)) (ptR ef (sc, ar)) (reR (sc, ar)) n1 (ptR ef (sc, ar) a (ar 22 k) 1))) = true := by rw [b2i_n0.mp c57_5, b2i_n0.mp c71_8, b2i_n0.mp c85_11]; rfl
            obtain rfl : a0 = a := by rcases Nat.lt_or_ge a a0 with z9 | z9; rw [hnos a z9] at hya; cases hya; omega
            refine lv_aload_n hx hb dX4_choose_94 rfl (lv_at hl 0 rfl) ?_
            refine va_get (D := (dC, dI)) (ci := 4) (v := .ref (AB 23)) (C := RX4) (T := TX4) (N := 33) hx hb hts hinX4 hown hK hP 0 rfl rfl 23 (by decide) (hts _ (List.mem_of_getElem? (i := 2) rfl)) (fun _ h9 => h9) rfl dX4_choose_95 ?_
            refine lv_iload_n hx hb dX4_choose_98 rfl (lv_at hl 1 rfl) ?_
            refine lv_iload hx hb dX4_choose_99 (lv_at hl 4 rfl) ?_
            refine va_iast hx hb hK hP hD hS 19 0 rfl rfl (vp_in_nI (show k < 64 by omega) (by decide)) dX4_choose_101 (fun H locs hP hD hS => ?_)
            rw [nI_clamp (show k < 2 ^ 31 by have := (show k < 64 by omega); omega)] at hP hD
            have hP : va_P (dC, dI) vwCl (mL AB cI cZ sc (va_up (va_up (va_up (va_up (va_up ar 19 xc) 20 yc) 21 zc) 22 (upd (upd (ar 22) (2 * k) 0) (2 * k + 1) 0)) 23 (upd (upd (ar 23) k (-1)) k (nI a0)))) H := hP
            have hD : va_D V (mL AB cI cZ sc (va_up (va_up (va_up (va_up (va_up ar 19 xc) 20 yc) 21 zc) 22 (upd (upd (ar 22) (2 * k) 0) (2 * k + 1) 0)) 23 (upd (upd (ar 23) k (-1)) k (nI a0)))) := hD
            refine lv_aload_n hx hb dX4_choose_102 rfl (lv_at hl 0 rfl) ?_
            refine va_get (D := (dC, dI)) (ci := 4) (v := .ref (AB 22)) (C := RX4) (T := TX4) (N := 33) hx hb hts hinX4 hown hK hP 0 rfl rfl 22 (by decide) (hts _ (List.mem_of_getElem? (i := 1) rfl)) (fun _ h9 => h9) rfl dX4_choose_103 ?_
            refine lv_iconst (v := 2) hx hb dX4_choose_106 (by decide) ?_
            refine lv_iload_n hx hb dX4_choose_107 rfl (lv_at hl 1 rfl) ?_
            refine lv_imul hx hb dX4_choose_108 ?_
            refine lv_topi (fun y12 ey12 => ?_)
            obtain rfl : y12 = nI (2 * k) := ey12.trans (pk_mul 2 k)
            refine lv_aload_n hx hb dX4_choose_109 rfl (lv_at hl 0 rfl) ?_
            refine lv_iload hx hb dX4_choose_110 (lv_at hl 4 rfl) ?_
            refine lv_iload_n hx hb dX4_choose_112 rfl (lv_at hl 3 rfl) ?_
            refine lv_iconst (v := 0) hx hb dX4_choose_113 (by decide) ?_
            refine vp_callSi (W.runV (As := [.int (nI a0), .int (ar 22 k), .int 0]) (rest := [.int (nI (2 * k)), .ref (AB 22)]) ⟨hx, hb, hml, hown, hts⟩ (m_part l dC dI AB cI cZ (sc, va_up (va_up (va_up (va_up (va_up ar 19 xc) 20 yc) 21 zc) 22 (upd (upd (ar 22) (2 * k) 0) (2 * k + 1) 0)) 23 (upd (upd (ar 23) k (-1)) k (nI a0))) ef ha08 ((frz_up (frz_up (frz_up (frz_up (frz_up frz.rf (by decide)) (by decide)) (by decide)) (by decide)) (by decide)).mok hM _ ha08).2.1 (hM _ ha08).2.2 (ar 22 k) 0) (cwV 3 hts gX4_choose_X4_part rfl rfl rfl (by decide +kernel) ⟨Nat.le_of_ble_eq_true rfl, Nat.le_of_ble_eq_true rfl⟩) ⟨bm_P, va_recv hK hP (ci := 4) (q0 := 0) rfl rfl, fun U hU hW => ⟨rfl, by rw [hU]; exact hP, va_K.moved hW.alike hK⟩⟩ rfl rfl hl.1 rfl (lv_room (Nat.le_of_ble_eq_true rfl)) dX4_choose_114 ⟨Nat.zero_le _, Nat.zero_le _⟩) (fun r er => ?_)
            obtain rfl : r = ptR ef (sc, ar) a0 (ar 22 k) 0 := er.trans (by rw [(frz_up (frz_up (frz_up (frz_up (frz_up frz.rf (by decide)) (by decide)) (by decide)) (by decide)) (by decide)).pt])
            refine va_iast hx hb hK hP hD hS 18 0 rfl rfl (vp_in_nI (show (2 * k) < 64 by omega) (by decide)) dX4_choose_117 (fun H locs hP hD hS => ?_)
            rw [nI_clamp (show (2 * k) < 2 ^ 31 by have := (show (2 * k) < 64 by omega); omega)] at hP hD
            have hP : va_P (dC, dI) vwCl (mL AB cI cZ sc (va_up (va_up (va_up (va_up (va_up ar 19 xc) 20 yc) 21 zc) 22 (upd (upd (upd (ar 22) (2 * k) 0) (2 * k + 1) 0) (2 * k) (ptR ef (sc, ar) a0 (ar 22 k) 0))) 23 (upd (upd (ar 23) k (-1)) k (nI a0)))) H := hP
            have hD : va_D V (mL AB cI cZ sc (va_up (va_up (va_up (va_up (va_up ar 19 xc) 20 yc) 21 zc) 22 (upd (upd (upd (ar 22) (2 * k) 0) (2 * k + 1) 0) (2 * k) (ptR ef (sc, ar) a0 (ar 22 k) 0))) 23 (upd (upd (ar 23) k (-1)) k (nI a0)))) := hD
            refine lv_aload_n hx hb dX4_choose_118 rfl (lv_at hl 0 rfl) ?_
            refine va_get (D := (dC, dI)) (ci := 4) (v := .ref (AB 22)) (C := RX4) (T := TX4) (N := 33) hx hb hts hinX4 hown hK hP 0 rfl rfl 22 (by decide) (hts _ (List.mem_of_getElem? (i := 1) rfl)) (fun _ h9 => h9) rfl dX4_choose_119 ?_
            refine lv_iconst (v := 2) hx hb dX4_choose_122 (by decide) ?_
            refine lv_iload_n hx hb dX4_choose_123 rfl (lv_at hl 1 rfl) ?_
            refine lv_imul hx hb dX4_choose_124 ?_
            refine lv_topi (fun y13 ey13 => ?_)
            obtain rfl : y13 = nI (2 * k) := ey13.trans (pk_mul 2 k)
            refine lv_iconst (v := 1) hx hb dX4_choose_125 (by decide) ?_
            refine lv_iadd hx hb dX4_choose_126 ?_
            refine lv_topi (fun y14 ey14 => ?_)
            obtain rfl : y14 = nI (2 * k + 1) := ey14.trans (nI_1 (2 * k))
            refine lv_aload_n hx hb dX4_choose_127 rfl (lv_at hl 0 rfl) ?_
            refine lv_iload hx hb dX4_choose_128 (lv_at hl 4 rfl) ?_
            refine lv_iload_n hx hb dX4_choose_130 rfl (lv_at hl 3 rfl) ?_
            refine lv_iconst (v := 1) hx hb dX4_choose_131 (by decide) ?_
            refine vp_callSi (W.runV (As := [.int (nI a0), .int (ar 22 k), .int 1]) (rest := [.int (nI (2 * k + 1)), .ref (AB 22)]) ⟨hx, hb, hml, hown, hts⟩ (m_part l dC dI AB cI cZ (sc, va_up (va_up (va_up (va_up (va_up ar 19 xc) 20 yc) 21 zc) 22 (upd (upd (upd (ar 22) (2 * k) 0) (2 * k + 1) 0) (2 * k) (ptR ef (sc, ar) a0 (ar 22 k) 0))) 23 (upd (upd (ar 23) k (-1)) k (nI a0))) ef ha08 ((frz_up (frz_up (frz_up (frz_up (frz_up frz.rf (by decide)) (by decide)) (by decide)) (by decide)) (by decide)).mok hM _ ha08).2.1 (hM _ ha08).2.2 (ar 22 k) 1) (cwV 3 hts gX4_choose_X4_part rfl rfl rfl (by decide +kernel) ⟨Nat.le_of_ble_eq_true rfl, Nat.le_of_ble_eq_true rfl⟩) ⟨bm_P, va_recv hK hP (ci := 4) (q0 := 0) rfl rfl, fun U hU hW => ⟨rfl, by rw [hU]; exact hP, va_K.moved hW.alike hK⟩⟩ rfl rfl hl.1 rfl (lv_room (Nat.le_of_ble_eq_true rfl)) dX4_choose_132 ⟨Nat.zero_le _, Nat.zero_le _⟩) (fun r er => ?_)
            obtain rfl : r = ptR ef (sc, ar) a0 (ar 22 k) 1 := er.trans (by rw [(frz_up (frz_up (frz_up (frz_up (frz_up frz.rf (by decide)) (by decide)) (by decide)) (by decide)) (by decide)).pt])
            refine va_iast hx hb hK hP hD hS 18 0 rfl rfl (vp_in_nI (show (2 * k + 1) < 64 by omega) (by decide)) dX4_choose_135 (fun H locs hP hD hS => ?_)
            rw [nI_clamp (show (2 * k + 1) < 2 ^ 31 by have := (show (2 * k + 1) < 64 by omega); omega)] at hP hD
            have hP : va_P (dC, dI) vwCl (mL AB cI cZ sc (va_up (va_up (va_up (va_up (va_up ar 19 xc) 20 yc) 21 zc) 22 (upd (upd (upd (upd (ar 22) (2 * k) 0) (2 * k + 1) 0) (2 * k) (ptR ef (sc, ar) a0 (ar 22 k) 0)) (2 * k + 1) (ptR ef (sc, ar) a0 (ar 22 k) 1))) 23 (upd (upd (ar 23) k (-1)) k (nI a0)))) H := hP
            have hD : va_D V (mL AB cI cZ sc (va_up (va_up (va_up (va_up (va_up ar 19 xc) 20 yc) 21 zc) 22 (upd (upd (upd (upd (ar 22) (2 * k) 0) (2 * k + 1) 0) (2 * k) (ptR ef (sc, ar) a0 (ar 22 k) 0)) (2 * k + 1) (ptR ef (sc, ar) a0 (ar 22 k) 1))) 23 (upd (upd (ar 23) k (-1)) k (nI a0)))) := hD
            have hdc : dcO (usR th (sc, ar)) (ptR ef (sc, ar)) (reR (sc, ar)) (n1 + 1) (ar 22 k) = some a0 := by unfold dcO; rw [if_neg (by rw [hre]; rintro (z9 | z9); exact hb0 z9; cases z9)]; exact hle
            exact W.vret hx hb hr (fun t ht hW => ⟨⟨(sc, va_up (va_up (va_up (va_up (va_up ar 19 xc) 20 yc) 21 zc) 22 (upd (upd (upd (upd (ar 22) (2 * k) 0) (2 * k + 1) 0) (2 * k) (ptR ef (sc, ar) a0 (ar 22 k) 0)) (2 * k + 1) (ptR ef (sc, ar) a0 (ar 22 k) 1))) 23 (upd (upd (ar 23) k (-1)) k (nI a0))), rfl, ⟨xc, yc, zc, by show _ = (sc, va_up (va_up (va_up (va_up (va_up ar 19 xc) 20 yc) 21 zc) 22 _) 23 _); rw [hdc, upd4 _ (by omega), show upd (upd (ar 23) k (-1)) k (nI a0) = upd (ar 23) k (nI a0) from funext fun q => by unfold upd; split <;> rfl]; rfl⟩, by rw [ht]; exact hP, hD⟩, hS.F ht⟩) hS.2.2 dX4_choose_136
          · skip
            obtain ⟨y15, ey15⟩ : ∃ y : Int32, y = (nI a) + 1 := ⟨_, rfl⟩
            refine lv_iinc (v := y15) (lv' := [(4, .int y15), (0, .ref (AB 0)), (1, .int (nI k)), (2, .int (nI (n1 + 1))), (3, .int (ar 22 k))]) hx hb dX4_choose_88 hl (k := 4) rfl (by rw [ey15]; rfl) (by decide) rfl (fun ls hl => ?_)
            obtain rfl : y15 = nI (a + 1) := ey15.trans (nI_1 a)
            refine lv_goto (tgt := 50) hx hb dX4_choose_91 (by decide) ?_
            have hno : (usR th (sc, ar) a (ar 22 k) && (slv (usR th (sc, ar)) (ptR ef (sc, ar)) (reR (sc, ar)) n1 (ptR ef (sc, ar) a (ar 22 k) 0) && slv (usR th (sc, ar)) (ptR ef (sc, ar)) (reR (sc, ar)) n1 (ptR ef (sc, ar) a (ar 22 k) 1))) = false := by rw [b2i_n0.mp c57_5, b2i_n0.mp c71_8, b2i_0.mp c85_11]; rfl
            exact ih ls H locs ⟨xc, yc, zc, hP, hD, hS, lv_sub hl [1, 2, 3, 4, 0] rfl⟩ (by rcases Nat.lt_or_ge a a0 with z9 | z9; exact z9; rw [show a = a0 by omega, hyes] at hno; cases hno)
    · skip
      have hdc : dcO (usR th (sc, ar)) (ptR ef (sc, ar)) (reR (sc, ar)) n (ar 22 k) = none := if_pos (Or.inr (b2i_n0.mp c43_4))
      exact W.vret hx hb hr (fun t ht hW => ⟨⟨(sc, va_up (va_up ar 22 (upd (upd (ar 22) (2 * k) 0) (2 * k + 1) 0)) 23 (upd (ar 23) k (-1))), rfl, ⟨ar 19, ar 20, ar 21, by show _ = (sc, va_up (va_up (va_up (va_up (va_up ar 19 (ar 19)) 20 (ar 20)) 21 (ar 21)) 22 _) 23 _); rw [hdc, va_up_id, va_up_id, va_up_id]; rfl⟩, by rw [ht]; exact hP, hD⟩, hS.F ht⟩) hS.2.2 dX4_choose_46
