theorem nI_lenz {α : Type} {S : List α} (h31 : S.length < 2 ^ 31) (h : nI S.length ≤ 0) : S = [] := by
  have := (nI_leI (b := 0) h31 (by decide)).mp h
  exact List.eq_nil_of_length_eq_zero (by omega)
theorem nI_lenc {α : Type} {S : List α} (h : ¬ nI S.length ≤ 0) : ∃ k S', S = k :: S' := by
  cases S with
  | nil => exact absurd (show nI 0 ≤ 0 by decide) h
  | cons k S => exact ⟨k, S, rfl⟩
theorem o2i_some {o : Option Nat} (h : (0 : Int32) ≤ o2i o) : ∃ a, o = some a := by
  cases o with
  | none => exact absurd h (by decide)
  | some a => exact ⟨a, rfl⟩
theorem o2i_neg {o : Option Nat} {N : Nat} (hN : N ≤ 2 ^ 31) (ho : ∀ a, o = some a → a < N) (h : ¬ (0 : Int32) ≤ o2i o) : o = none := by
  cases o with
  | none => rfl
  | some a => exact absurd (nI_nlt0 (by have := ho a rfl; omega)) h
set_option maxHeartbeats 4000000 in
set_option maxRecDepth 100000 in
/-- right 0 -/
theorem m_right0 (l : Launch) (dC : Nat → ClassId) (dI : Nat → Nat → Nat) (AB : Nat → Nat) (cI cZ : ClassId) (τ : MS) (sz : Nat) {th : Nat → Bool} {ef : Nat → Nat} (hM : mok th ef τ) {C : Nat} (hC : τ.1 10 = nI C) (hC6 : C ≤ 6) {c0 : Nat} {ta tp tq : Nat → Option Nat} {ht : Nat → Nat} (hT : tbl c0 ta tp tq ht) (hc0 : 0 < c0) (hA0 : tbA τ.2 c0 ta tp tq) (hp16 : ∀ a, a < 8 → ∀ x w, is16 (ptR ef τ a x w)) (h1 : ¬ τ.1 15 = 0) : Met l yX4_right wsX4_right ({ frames := 12, cells := 0, slots := 0, locals := 600 }) (va_Pc [.ref (AB 0)] (mF dC dI AB cI cZ sz τ)) (va_Qi (fun (r : Int32) (τ2 : MS) => r = b2i (fitO (usR th τ) (ptR ef τ) (reR τ) ta tp tq 5 (some 0) (stR τ C)) ∧ ∃ wk wb : Nat → Int32, τ2 = (va_up τ.1 0 0, va_up (va_up τ.2 26 wk) 27 wb)) (mB dC dI AB cI cZ (va_A (mW AB cI cZ τ) sz)) (va_A (mW AB cI cZ τ) sz)) 0 0 (va_A (mW AB cI cZ τ) sz) := by
  obtain ⟨sc, ar⟩ := τ
  refine Met.ofW (cc := cX4_right) (maxL := 9) (ret := (some .boolean)) (by decide) rfl ?_
  intro p e s m args below meth c s₁ B hml hv
  obtain ⟨rfl, hsz, hP, hK, hD0⟩ := hv
  have hx := B.exec
  have hb := B.bytes
  have hr := B.returns
  have hts := atoms_spec (ws := wsX4_right) B.pre
  have hown : s.vm.findClass RX4 = some m.cls := findClass_of_methodNamed B.named
  have hlocks := B.notSynchronized
  have hinX4 : ∀ w ∈ wsX40, w ∈ wsX4_right := fun _ h => List.mem_cons_of_mem _ (List.mem_append_right _ h)
  subst hsz
  have hD := hD0.self (sz := s.heap.size)
  generalize hAe : va_A (mW AB cI cZ _) s.heap.size = V at hD ⊢
  have hA : ∀ q : Nat, s.heap.size ≤ q → V q := fun q h => by rw [← hAe]; exact Or.inr h
  have hS : va_S V s.heap s.heap [] := va_S.rf
  have hl := lv_entry ([.ref (AB 0)]) (n := 9) (Nat.le_of_ble_eq_true rfl)
  rw [lg_entry_eq]
  generalize (lg_sl ([.ref (AB 0)]) ++ List.replicate (9 - (lg_sl ([.ref (AB 0)])).length) Slot.unset).toArray = ls at hl ⊢
  have hl : lv_has ls 9 [(0, .ref (AB 0))] := hl
  have hP : va_P (dC, dI) vwCl (mL AB cI cZ sc ar) s.heap := hP
  have hD : va_D V (mL AB cI cZ sc ar) := hD
  have hA0 : ∀ k, k < c0 → ar 16 k = o2i (ta k) ∧ ar 17 k = o2i (tp k) ∧ ar 18 k = o2i (tq k) := hA0
  have hp16 : ∀ a, a < 8 → ∀ x w, is16 (ptR ef (sc, ar) a x w) := hp16
  have hc31 := hT.1
  refine lv_aload_n hx hb dX4_right_0 rfl (lv_at hl 0 rfl) ?_
  refine lv_iconst (v := 0) hx hb dX4_right_1 (by decide) ?_
  refine va_put (D := (dC, dI)) (ci := 4) (v := .int 0) (ty := .int) (C := RX4) (T := TX4) (N := 33) hx hb hts hinX4 tyX4 tyX4_ok nmX4 hown hK hP hD hS 0 rfl rfl 0 (by decide) (hts _ (List.mem_of_getElem? (i := 1) rfl)) (fun _ h9 => h9) rfl (by decide +kernel) rfl rfl (Nat.le_of_ble_eq_true rfl) dX4_right_2 (fun H locs hP hD hS => ?_)
  have hP : va_P (dC, dI) vwCl (mL AB cI cZ (va_up sc 0 0) ar) H := hP
  have hD : va_D V (mL AB cI cZ (va_up sc 0 0) ar) := hD
  refine lv_aload_n hx hb dX4_right_5 rfl (lv_at hl 0 rfl) ?_
  refine va_get (D := (dC, dI)) (ci := 4) (v := .int (sc 15)) (C := RX4) (T := TX4) (N := 33) hx hb hts hinX4 hown hK hP 0 rfl rfl 15 (by decide) (hts _ (List.mem_of_getElem? (i := 2) rfl)) (fun _ h9 => h9) rfl dX4_right_6 ?_
  refine lv_if_ne (tgt := 26) hx hb dX4_right_9 (by decide) (fun c9_0 => ?_) (fun c9_0 => ?_)
  · skip
    refine lv_aload_n hx hb dX4_right_26 rfl (lv_at hl 0 rfl) ?_
    refine vp_callSi (W.runV (As := []) (rest := []) ⟨hx, hb, hml, hown, hts⟩ (m_startBelief l dC dI AB cI cZ (va_up sc 0 0, ar) (C := C) hC hC6) (cwV 0 hts gX4_right_X4_startBelief rfl rfl rfl (by decide +kernel) ⟨Nat.le_of_ble_eq_true rfl, Nat.le_of_ble_eq_true rfl⟩) ⟨bm_P, va_recv hK hP (ci := 4) (q0 := 0) rfl rfl, fun U hU hW => ⟨rfl, by rw [hU]; exact hP, va_K.moved hW.alike hK⟩⟩ rfl rfl hl.1 rfl (lv_room (Nat.le_of_ble_eq_true rfl)) dX4_right_27 ⟨Nat.zero_le _, Nat.zero_le _⟩) (fun r er => ?_)
    obtain rfl : r = stR (sc, ar) C := er.trans (by rw [(frz_sc frz.rf (by decide)).st])
    refine lv_if_ne (tgt := 37) hx hb dX4_right_30 (by decide) (fun c30_1 => ?_) (fun c30_1 => ?_)
    · skip
      refine lv_iconst (v := 1) hx hb dX4_right_37 (by decide) ?_
      refine lv_istore_n (lv' := [(1, .int 1), (0, .ref (AB 0))]) hx hb dX4_right_38 rfl hl (by decide) rfl (fun ls hl => ?_)
      refine lv_aload_n hx hb dX4_right_39 rfl (lv_at hl 1 rfl) ?_
      refine va_get (D := (dC, dI)) (ci := 4) (v := .ref (AB 26)) (C := RX4) (T := TX4) (N := 33) hx hb hts hinX4 hown hK hP 0 rfl rfl 26 (by decide) (hts _ (List.mem_of_getElem? (i := 3) rfl)) (fun _ h9 => h9) rfl dX4_right_40 ?_
      refine lv_iconst (v := 0) hx hb dX4_right_43 (by decide) ?_
      refine lv_topi (fun y2 ey2 => ?_)
      obtain rfl : y2 = nI 0 := ey2.trans (rfl)
      refine lv_iconst (v := 0) hx hb dX4_right_44 (by decide) ?_
      refine va_iast hx hb hK hP hD hS 22 0 rfl rfl (vp_in_nI (show 0 < 64 by omega) (by decide)) dX4_right_45 (fun H locs hP hD hS => ?_)
      rw [nI_clamp (show 0 < 2 ^ 31 by have := (show 0 < 64 by omega); omega)] at hP hD
      have hP : va_P (dC, dI) vwCl (mL AB cI cZ (va_up sc 0 0) (va_up ar 26 (upd (ar 26) 0 0))) H := hP
      have hD : va_D V (mL AB cI cZ (va_up sc 0 0) (va_up ar 26 (upd (ar 26) 0 0))) := hD
      refine lv_aload_n hx hb dX4_right_46 rfl (lv_at hl 1 rfl) ?_
      refine va_get (D := (dC, dI)) (ci := 4) (v := .ref (AB 27)) (C := RX4) (T := TX4) (N := 33) hx hb hts hinX4 hown hK hP 0 rfl rfl 27 (by decide) (hts _ (List.mem_of_getElem? (i := 4) rfl)) (fun _ h9 => h9) rfl dX4_right_47 ?_
      refine lv_iconst (v := 0) hx hb dX4_right_50 (by decide) ?_
      refine lv_topi (fun y3 ey3 => ?_)
      obtain rfl : y3 = nI 0 := ey3.trans (rfl)
      refine lv_aload_n hx hb dX4_right_51 rfl (lv_at hl 1 rfl) ?_
      refine vp_callSi (W.runV (As := []) (rest := [.int (nI 0), .ref (AB 27)]) ⟨hx, hb, hml, hown, hts⟩ (m_startBelief l dC dI AB cI cZ (va_up sc 0 0, va_up ar 26 (upd (ar 26) 0 0)) (C := C) hC hC6) (cwV 0 hts gX4_right_X4_startBelief rfl rfl rfl (by decide +kernel) ⟨Nat.le_of_ble_eq_true rfl, Nat.le_of_ble_eq_true rfl⟩) ⟨bm_P, va_recv hK hP (ci := 4) (q0 := 0) rfl rfl, fun U hU hW => ⟨rfl, by rw [hU]; exact hP, va_K.moved hW.alike hK⟩⟩ rfl rfl hl.1 rfl (lv_room (Nat.le_of_ble_eq_true rfl)) dX4_right_52 ⟨Nat.zero_le _, Nat.zero_le _⟩) (fun r er => ?_)
      obtain rfl : r = stR (sc, ar) C := er.trans (by rw [(frz_sc (frz_up frz.rf (by decide)) (by decide)).st])
      refine va_iast hx hb hK hP hD hS 23 0 rfl rfl (vp_in_nI (show 0 < 64 by omega) (by decide)) dX4_right_55 (fun H locs hP hD hS => ?_)
      rw [nI_clamp (show 0 < 2 ^ 31 by have := (show 0 < 64 by omega); omega)] at hP hD
      have hP : va_P (dC, dI) vwCl (mL AB cI cZ (va_up sc 0 0) (va_up (va_up ar 26 (upd (ar 26) 0 0)) 27 (upd (ar 27) 0 (stR (sc, ar) C)))) H := hP
      have hD : va_D V (mL AB cI cZ (va_up sc 0 0) (va_up (va_up ar 26 (upd (ar 26) 0 0)) 27 (upd (ar 27) 0 (stR (sc, ar) C)))) := hD
      refine lv_iconst (v := 1) hx hb dX4_right_56 (by decide) ?_
      refine lv_istore_n (lv' := [(2, .int 1), (1, .int 1), (0, .ref (AB 0))]) hx hb dX4_right_57 rfl hl (by decide) rfl (fun ls hl => ?_)
      refine w_loopH (pc := 58) 31 (fun j ls H locs => ∃ (S : List (Nat × Int32)) (g : Bool) (wk wb : Nat → Int32), va_P (dC, dI) vwCl (mL AB cI cZ (va_up sc 0 0) (va_up (va_up ar 26 wk) 27 wb)) H ∧ va_D V (mL AB cI cZ (va_up sc 0 0) (va_up (va_up ar 26 wk) 27 wb)) ∧ va_S V s.heap H locs ∧ rIv (usR th (sc, ar)) (ptR ef (sc, ar)) (reR (sc, ar)) c0 ta tp tq ht (fitO (usR th (sc, ar)) (ptR ef (sc, ar)) (reR (sc, ar)) ta tp tq 5 (some 0) (stR (sc, ar) C)) (31 - j) g S wk wb ∧ lv_has ls 9 [(0, .ref (AB 0)), (1, .int (nI S.length)), (2, .int (b2i g))]) ?_ 0 (Nat.zero_le _) ls _ _ ⟨[(0, stR (sc, ar) C)], true, upd (ar 26) 0 0, upd (ar 27) 0 (stR (sc, ar) C), hP, hD, hS, ⟨⟨⟨upd_eq, upd_eq⟩, trivial⟩, fun q hq => by rw [List.mem_singleton.mp hq]; exact ⟨hc0, st16 _ _, c30_1⟩, by rw [hsm_cons]; show hsz ht 0 + 0 ≤ 31; have h8 := (hT.2 0 hc0).1; have h9 : 2 ^ (ht 0 + 1) ≤ 2 ^ 5 := Nat.pow_le_pow_right (by decide) (by omega); unfold hsz; omega, by omega, by show (true && (fxO (usR th (sc, ar)) (ptR ef (sc, ar)) (reR (sc, ar)) ta tp tq ht 0 (stR (sc, ar) C) && true)) = _; rw [Bool.true_and, Bool.and_true]; exact (fit_ht hT 5 0 hc0 (by have h8 := (hT.2 0 hc0).1; omega) 5 (by have h8 := (hT.2 0 hc0).1; omega) _).symm⟩, lv_sub hl [2, 1, 0] rfl⟩
      intro j ls H locs hk hI ih
      obtain ⟨S, g, wk, wb, hP, hD, hS, hN, hl⟩ := hI
      have hlen := hN.len
      refine lv_iload_n hx hb dX4_right_58 rfl (lv_at hl 1 rfl) ?_
      refine lv_if_le (tgt := 220) hx hb dX4_right_59 (by decide) (fun c59_4 => ?_) (fun c59_4 => ?_)
      · skip
        obtain rfl := nI_lenz (by omega) c59_4
        have hR := hN.2.2.2.2
        have hl : lv_has ls 9 [(0, .ref (AB 0)), (1, .int (nI 0)), (2, .int (b2i g))] := hl
        refine lv_iload_n hx hb dX4_right_220 rfl (lv_at hl 2 rfl) ?_
        exact W.zret hx hb hr (b2i_nar _) (fun t ht hW => ⟨⟨_, (va_up sc 0 0, va_up (va_up ar 26 wk) 27 wb), rfl, ⟨by show _ = b2i (fitO (usR th (sc, ar)) (ptR ef (sc, ar)) (reR (sc, ar)) ta tp tq 5 (some 0) (stR (sc, ar) C)); rw [← hR]; show b2i g = b2i (g && true); rw [Bool.and_true], wk, wb, rfl⟩, by rw [ht]; exact hP, hD⟩, hS.F ht⟩) hS.2.2 dX4_right_221
      · skip
        obtain ⟨⟨k, x⟩, S, rfl⟩ := nI_lenc c59_4
        have hl : lv_has ls 9 [(0, .ref (AB 0)), (1, .int (nI (S.length + 1))), (2, .int (b2i g))] := hl
        refine lv_iload_n hx hb dX4_right_62 rfl (lv_at hl 2 rfl) ?_
        refine lv_if_eq (tgt := 220) hx hb dX4_right_63 (by decide) (fun c63_5 => ?_) (fun c63_5 => ?_)
        · skip
          obtain rfl := b2i_0.mp c63_5
          have hR := hN.2.2.2.2
          refine lv_iload_n hx hb dX4_right_220 rfl (lv_at hl 2 rfl) ?_
          exact W.zret hx hb hr (b2i_nar _) (fun t ht hW => ⟨⟨_, (va_up sc 0 0, va_up (va_up ar 26 wk) 27 wb), rfl, ⟨by show _ = b2i (fitO (usR th (sc, ar)) (ptR ef (sc, ar)) (reR (sc, ar)) ta tp tq 5 (some 0) (stR (sc, ar) C)); rw [← hR]; rfl, wk, wb, rfl⟩, by rw [ht]; exact hP, hD⟩, hS.F ht⟩) hS.2.2 dX4_right_221
        · skip
          obtain rfl := b2i_n0.mp c63_5
          obtain ⟨f, hf⟩ := hN.f_pos
          rw [hf] at hN
          have hq3 := hN.2.1 (k, x) (List.mem_cons_self ..)
          have hkc : k < c0 := hq3.1
          have hx0 : ¬ x = 0 := hq3.2.2
          have hlen : S.length + 1 ≤ 31 := hlen
          obtain ⟨e16, e17, e18⟩ := hA0 k hkc
          have hT4 := (hT.2 k hkc).2.2
          obtain ⟨y6, ey6⟩ : ∃ y : Int32, y = (nI (S.length + 1)) + (-1) := ⟨_, rfl⟩
          refine lv_iinc (v := y6) (lv' := [(1, .int y6), (0, .ref (AB 0)), (2, .int (b2i true))]) hx hb dX4_right_66 hl (k := 1) rfl (by rw [ey6]; rfl) (by decide) rfl (fun ls hl => ?_)
          obtain rfl : y6 = nI S.length := ey6.trans (dpt_a (S.length + 1))
          refine lv_aload_n hx hb dX4_right_69 rfl (lv_at hl 1 rfl) ?_
          refine va_get (D := (dC, dI)) (ci := 4) (v := .ref (AB 26)) (C := RX4) (T := TX4) (N := 33) hx hb hts hinX4 hown hK hP 0 rfl rfl 26 (by decide) (hts _ (List.mem_of_getElem? (i := 3) rfl)) (fun _ h9 => h9) rfl dX4_right_70 ?_
          refine lv_iload_n hx hb dX4_right_73 rfl (lv_at hl 0 rfl) ?_
          refine va_iald hx hb hK hP 22 0 rfl rfl (vp_in_nI (show S.length < 64 by omega) (by decide)) dX4_right_74 ?_
          rw [nI_clamp (show S.length < 2 ^ 31 by have := (show S.length < 64 by omega); omega)]
          refine lv_topi (fun y7 ey7 => ?_)
          obtain rfl : y7 = nI k := ey7.trans (hN.1.1.1)
          refine lv_istore_n (lv' := [(3, .int (nI k)), (1, .int (nI S.length)), (0, .ref (AB 0)), (2, .int (b2i true))]) hx hb dX4_right_75 rfl hl (by decide) rfl (fun ls hl => ?_)
          refine lv_aload_n hx hb dX4_right_76 rfl (lv_at hl 2 rfl) ?_
          refine va_get (D := (dC, dI)) (ci := 4) (v := .ref (AB 27)) (C := RX4) (T := TX4) (N := 33) hx hb hts hinX4 hown hK hP 0 rfl rfl 27 (by decide) (hts _ (List.mem_of_getElem? (i := 4) rfl)) (fun _ h9 => h9) rfl dX4_right_77 ?_
          refine lv_iload_n hx hb dX4_right_80 rfl (lv_at hl 1 rfl) ?_
          refine va_iald hx hb hK hP 23 0 rfl rfl (vp_in_nI (show S.length < 64 by omega) (by decide)) dX4_right_81 ?_
          rw [nI_clamp (show S.length < 2 ^ 31 by have := (show S.length < 64 by omega); omega)]
          refine lv_topi (fun y8 ey8 => ?_)
          obtain rfl : x = y8 := (ey8.trans (hN.1.1.2)).symm
          refine lv_istore (lv' := [(4, .int x), (3, .int (nI k)), (1, .int (nI S.length)), (0, .ref (AB 0)), (2, .int (b2i true))]) hx hb dX4_right_82 hl (by decide) rfl (fun ls hl => ?_)
          refine lv_aload_n hx hb dX4_right_84 rfl (lv_at hl 3 rfl) ?_
          refine va_get (D := (dC, dI)) (ci := 4) (v := .ref (AB 16)) (C := RX4) (T := TX4) (N := 33) hx hb hts hinX4 hown hK hP 0 rfl rfl 16 (by decide) (hts _ (List.mem_of_getElem? (i := 5) rfl)) (fun _ h9 => h9) rfl dX4_right_85 ?_
          refine lv_iload_n hx hb dX4_right_88 rfl (lv_at hl 1 rfl) ?_
          refine va_iald hx hb hK hP 12 0 rfl rfl (vp_in_nI (show k < 32 by omega) (by decide)) dX4_right_89 ?_
          rw [nI_clamp (show k < 2 ^ 31 by have := (show k < 32 by omega); omega)]
          refine lv_topi (fun y9 ey9 => ?_)
          obtain rfl : y9 = o2i (ta k) := ey9.trans (e16)
          refine lv_istore (lv' := [(5, .int (o2i (ta k))), (4, .int x), (3, .int (nI k)), (1, .int (nI S.length)), (0, .ref (AB 0)), (2, .int (b2i true))]) hx hb dX4_right_90 hl (by decide) rfl (fun ls hl => ?_)
          refine lv_iload hx hb dX4_right_92 (lv_at hl 0 rfl) ?_
          refine lv_if_ge (tgt := 106) hx hb dX4_right_94 (by decide) (fun c94_10 => ?_) (fun c94_10 => ?_)
          · skip
            obtain ⟨a, hta⟩ := o2i_some c94_10
            have ha8 := ((hT.2 k hkc).2.1 a hta).1
            rw [hta] at hl
            have hl : lv_has ls 9 [(5, .int (nI a)), (4, .int x), (3, .int (nI k)), (1, .int (nI S.length)), (0, .ref (AB 0)), (2, .int (b2i true))] := hl
            refine lv_aload_n hx hb dX4_right_106 rfl (lv_at hl 4 rfl) ?_
            refine lv_iload hx hb dX4_right_107 (lv_at hl 0 rfl) ?_
            refine lv_iload hx hb dX4_right_109 (lv_at hl 1 rfl) ?_
            refine vp_callSi (W.runV (As := [.int (nI a), .int x]) (rest := []) ⟨hx, hb, hml, hown, hts⟩ (m_usable l dC dI AB cI cZ (va_up sc 0 0, va_up (va_up ar 26 wk) 27 wb) th ha8 ((frz_sc (frz_up (frz_up frz.rf (by decide)) (by decide)) (by decide)).mok hM _ ha8).1 x) (cwV 2 hts gX4_right_X4_usable rfl rfl rfl (by decide +kernel) ⟨Nat.le_of_ble_eq_true rfl, Nat.le_of_ble_eq_true rfl⟩) ⟨bm_P, va_recv hK hP (ci := 4) (q0 := 0) rfl rfl, fun U hU hW => ⟨rfl, by rw [hU]; exact hP, va_K.moved hW.alike hK⟩⟩ rfl rfl hl.1 rfl (lv_room (Nat.le_of_ble_eq_true rfl)) dX4_right_111 ⟨Nat.zero_le _, Nat.zero_le _⟩) (fun r er => ?_)
            obtain rfl : r = b2i (usR th (sc, ar) a x) := er.trans (by rw [(frz_sc (frz_up (frz_up frz.rf (by decide)) (by decide)) (by decide)).us])
            refine lv_istore_n (lv' := [(2, .int (b2i (usR th (sc, ar) a x))), (5, .int (nI a)), (4, .int x), (3, .int (nI k)), (1, .int (nI S.length)), (0, .ref (AB 0))]) hx hb dX4_right_114 rfl hl (by decide) rfl (fun ls hl => ?_)
            refine lv_iconst (v := 0) hx hb dX4_right_115 (by decide) ?_
            refine lv_topi (fun y11 ey11 => ?_)
            obtain rfl : y11 = nI 0 := ey11.trans (rfl)
            refine lv_istore (lv' := [(6, .int (nI 0)), (2, .int (b2i (usR th (sc, ar) a x))), (5, .int (nI a)), (4, .int x), (3, .int (nI k)), (1, .int (nI S.length)), (0, .ref (AB 0))]) hx hb dX4_right_116 hl (by decide) rfl (fun ls hl => ?_)
            refine lv_iload hx hb dX4_right_118 (lv_at hl 0 rfl) ?_
            refine lv_iconst (v := 2) hx hb dX4_right_120 (by decide) ?_
            refine lv_icmp_ge (tgt := 217) hx hb dX4_right_121 (by decide) (fun c121_12 => ?_) (fun c121_12 => ?_)
            · exact absurd c121_12 (by decide)
            · skip
              refine lv_iload_n hx hb dX4_right_124 rfl (lv_at hl 1 rfl) ?_
              refine lv_if_eq (tgt := 217) hx hb dX4_right_125 (by decide) (fun c125_13 => ?_) (fun c125_13 => ?_)
              · skip
                refine lv_goto (tgt := 58) hx hb dX4_right_217 (by decide) ?_
                exact ih ls H locs ⟨S, _, wk, wb, hP, hD, hS, by rw [show 31 - (j + 1) = f by omega]; exact hN.pop _ (by rw [fx_node hT hkc hx0 hta, b2i_0.mp c125_13]; rfl), lv_sub hl [6, 5, 1] rfl⟩ (by omega)
              · skip
                have hus := b2i_n0.mp c125_13
                refine lv_iload hx hb dX4_right_128 (lv_at hl 2 rfl) ?_
                refine lv_if_lt (tgt := 217) hx hb dX4_right_130 (by decide) (fun c130_14 => ?_) (fun c130_14 => ?_)
                · exact absurd c130_14 (nI_ge0 (by omega))
                · skip
                  refine lv_aload_n hx hb dX4_right_133 rfl (lv_at hl 6 rfl) ?_
                  refine lv_iload hx hb dX4_right_134 (lv_at hl 2 rfl) ?_
                  refine lv_iload hx hb dX4_right_136 (lv_at hl 3 rfl) ?_
                  refine lv_iload hx hb dX4_right_138 (lv_at hl 0 rfl) ?_
                  refine vp_callSi (W.runV (As := [.int (nI a), .int x, .int (nI 0)]) (rest := []) ⟨hx, hb, hml, hown, hts⟩ (m_part l dC dI AB cI cZ (va_up sc 0 0, va_up (va_up ar 26 wk) 27 wb) ef ha8 ((frz_sc (frz_up (frz_up frz.rf (by decide)) (by decide)) (by decide)).mok hM _ ha8).2.1 (hM _ ha8).2.2 x (nI 0)) (cwV 3 hts gX4_right_X4_part rfl rfl rfl (by decide +kernel) ⟨Nat.le_of_ble_eq_true rfl, Nat.le_of_ble_eq_true rfl⟩) ⟨bm_P, va_recv hK hP (ci := 4) (q0 := 0) rfl rfl, fun U hU hW => ⟨rfl, by rw [hU]; exact hP, va_K.moved hW.alike hK⟩⟩ rfl rfl hl.1 rfl (lv_room (Nat.le_of_ble_eq_true rfl)) dX4_right_140 ⟨Nat.zero_le _, Nat.zero_le _⟩) (fun r er => ?_)
                  obtain rfl : r = ptR ef (sc, ar) a x 0 := er.trans (congrFun (congrFun (congrFun ((frz_sc (frz_up (frz_up frz.rf (by decide)) (by decide)) (by decide)).pt ef) a) x) 0)
                  refine lv_istore (lv' := [(7, .int (ptR ef (sc, ar) a x 0)), (6, .int (nI 0)), (2, .int (b2i (usR th (sc, ar) a x))), (5, .int (nI a)), (4, .int x), (3, .int (nI k)), (1, .int (nI S.length)), (0, .ref (AB 0))]) hx hb dX4_right_143 hl (by decide) rfl (fun ls hl => ?_)
                  refine lv_iload hx hb dX4_right_145 (lv_at hl 1 rfl) ?_
                  refine lv_if_ne (tgt := 159) hx hb dX4_right_147 (by decide) (fun c147_15 => ?_) (fun c147_15 => ?_)
                  · exact absurd rfl c147_15
                  · skip
                    refine lv_aload_n hx hb dX4_right_150 rfl (lv_at hl 7 rfl) ?_
                    refine va_get (D := (dC, dI)) (ci := 4) (v := .ref (AB 17)) (C := RX4) (T := TX4) (N := 33) hx hb hts hinX4 hown hK hP 0 rfl rfl 17 (by decide) (hts _ (List.mem_of_getElem? (i := 6) rfl)) (fun _ h9 => h9) rfl dX4_right_151 ?_
                    refine lv_iload_n hx hb dX4_right_154 rfl (lv_at hl 5 rfl) ?_
                    refine va_iald hx hb hK hP 13 0 rfl rfl (vp_in_nI (show k < 32 by omega) (by decide)) dX4_right_155 ?_
                    rw [nI_clamp (show k < 2 ^ 31 by have := (show k < 32 by omega); omega)]
                    refine lv_topi (fun y16 ey16 => ?_)
                    obtain rfl : y16 = o2i (tp k) := ey16.trans (e17)
                    refine lv_goto (tgt := 165) hx hb dX4_right_156 (by decide) ?_
                    refine lv_istore (lv' := [(8, .int (o2i (tp k))), (7, .int (ptR ef (sc, ar) a x 0)), (6, .int (nI 0)), (2, .int (b2i (usR th (sc, ar) a x))), (5, .int (nI a)), (4, .int x), (3, .int (nI k)), (1, .int (nI S.length)), (0, .ref (AB 0))]) hx hb dX4_right_165 hl (by decide) rfl (fun ls hl => ?_)
                    refine lv_iload hx hb dX4_right_167 (lv_at hl 1 rfl) ?_
                    refine lv_if_eq (tgt := 177) hx hb dX4_right_169 (by decide) (fun c169_17 => ?_) (fun c169_17 => ?_)
                    · skip
                      have hpz0 := c169_17
                      refine lv_iconst (v := 1) hx hb dX4_right_177 (by decide) ?_
                      refine lv_goto (tgt := 182) hx hb dX4_right_178 (by decide) ?_
                      refine lv_istore_n (lv' := [(2, .int 1), (8, .int (o2i (tp k))), (7, .int (ptR ef (sc, ar) a x 0)), (6, .int (nI 0)), (5, .int (nI a)), (4, .int x), (3, .int (nI k)), (1, .int (nI S.length)), (0, .ref (AB 0))]) hx hb dX4_right_182 rfl hl (by decide) rfl (fun ls hl => ?_)
                      refine lv_iload hx hb dX4_right_183 (lv_at hl 2 rfl) ?_
                      refine lv_if_le (tgt := 211) hx hb dX4_right_185 (by decide) (fun c185_18 => ?_) (fun c185_18 => ?_)
                      · skip
                        obtain ⟨y19, ey19⟩ : ∃ y : Int32, y = (nI 0) + 1 := ⟨_, rfl⟩
                        refine lv_iinc (v := y19) (lv' := [(6, .int y19), (2, .int 1), (8, .int (o2i (tp k))), (7, .int (ptR ef (sc, ar) a x 0)), (5, .int (nI a)), (4, .int x), (3, .int (nI k)), (1, .int (nI S.length)), (0, .ref (AB 0))]) hx hb dX4_right_211 hl (k := 3) rfl (by rw [ey19]; rfl) (by decide) rfl (fun ls hl => ?_)
                        obtain rfl : y19 = nI (0 + 1) := ey19.trans (nI_1 0)
                        refine lv_goto (tgt := 118) hx hb dX4_right_214 (by decide) ?_
                        refine lv_iload hx hb dX4_right_118 (lv_at hl 0 rfl) ?_
                        refine lv_iconst (v := 2) hx hb dX4_right_120 (by decide) ?_
                        refine lv_icmp_ge (tgt := 217) hx hb dX4_right_121 (by decide) (fun c121_20 => ?_) (fun c121_20 => ?_)
                        · exact absurd c121_20 (by decide)
                        · skip
                          refine lv_iload_n hx hb dX4_right_124 rfl (lv_at hl 1 rfl) ?_
                          refine lv_if_eq (tgt := 217) hx hb dX4_right_125 (by decide) (fun c125_21 => ?_) (fun c125_21 => ?_)
                          · exact absurd c125_21 (by decide)
                          · skip
                            refine lv_iload hx hb dX4_right_128 (lv_at hl 4 rfl) ?_
                            refine lv_if_lt (tgt := 217) hx hb dX4_right_130 (by decide) (fun c130_22 => ?_) (fun c130_22 => ?_)
                            · exact absurd c130_22 (nI_ge0 (by omega))
                            · skip
                              refine lv_aload_n hx hb dX4_right_133 rfl (lv_at hl 8 rfl) ?_
                              refine lv_iload hx hb dX4_right_134 (lv_at hl 4 rfl) ?_
                              refine lv_iload hx hb dX4_right_136 (lv_at hl 5 rfl) ?_
                              refine lv_iload hx hb dX4_right_138 (lv_at hl 0 rfl) ?_
                              refine vp_callSi (W.runV (As := [.int (nI a), .int x, .int (nI (0 + 1))]) (rest := []) ⟨hx, hb, hml, hown, hts⟩ (m_part l dC dI AB cI cZ (va_up sc 0 0, va_up (va_up ar 26 wk) 27 wb) ef ha8 ((frz_sc (frz_up (frz_up frz.rf (by decide)) (by decide)) (by decide)).mok hM _ ha8).2.1 (hM _ ha8).2.2 x (nI (0 + 1))) (cwV 3 hts gX4_right_X4_part rfl rfl rfl (by decide +kernel) ⟨Nat.le_of_ble_eq_true rfl, Nat.le_of_ble_eq_true rfl⟩) ⟨bm_P, va_recv hK hP (ci := 4) (q0 := 0) rfl rfl, fun U hU hW => ⟨rfl, by rw [hU]; exact hP, va_K.moved hW.alike hK⟩⟩ rfl rfl hl.1 rfl (lv_room (Nat.le_of_ble_eq_true rfl)) dX4_right_140 ⟨Nat.zero_le _, Nat.zero_le _⟩) (fun r er => ?_)
                              obtain rfl : r = ptR ef (sc, ar) a x 1 := er.trans (congrFun (congrFun (congrFun ((frz_sc (frz_up (frz_up frz.rf (by decide)) (by decide)) (by decide)).pt ef) a) x) 1)
                              refine lv_istore (lv' := [(7, .int (ptR ef (sc, ar) a x 1)), (6, .int (nI (0 + 1))), (2, .int 1), (8, .int (o2i (tp k))), (5, .int (nI a)), (4, .int x), (3, .int (nI k)), (1, .int (nI S.length)), (0, .ref (AB 0))]) hx hb dX4_right_143 hl (by decide) rfl (fun ls hl => ?_)
                              refine lv_iload hx hb dX4_right_145 (lv_at hl 1 rfl) ?_
                              refine lv_if_ne (tgt := 159) hx hb dX4_right_147 (by decide) (fun c147_23 => ?_) (fun c147_23 => ?_)
                              · skip
                                refine lv_aload_n hx hb dX4_right_159 rfl (lv_at hl 8 rfl) ?_
                                refine va_get (D := (dC, dI)) (ci := 4) (v := .ref (AB 18)) (C := RX4) (T := TX4) (N := 33) hx hb hts hinX4 hown hK hP 0 rfl rfl 18 (by decide) (hts _ (List.mem_of_getElem? (i := 7) rfl)) (fun _ h9 => h9) rfl dX4_right_160 ?_
                                refine lv_iload_n hx hb dX4_right_163 rfl (lv_at hl 6 rfl) ?_
                                refine va_iald hx hb hK hP 14 0 rfl rfl (vp_in_nI (show k < 32 by omega) (by decide)) dX4_right_164 ?_
                                rw [nI_clamp (show k < 2 ^ 31 by have := (show k < 32 by omega); omega)]
                                refine lv_topi (fun y24 ey24 => ?_)
                                obtain rfl : y24 = o2i (tq k) := ey24.trans (e18)
                                refine lv_istore (lv' := [(8, .int (o2i (tq k))), (7, .int (ptR ef (sc, ar) a x 1)), (6, .int (nI (0 + 1))), (2, .int 1), (5, .int (nI a)), (4, .int x), (3, .int (nI k)), (1, .int (nI S.length)), (0, .ref (AB 0))]) hx hb dX4_right_165 hl (by decide) rfl (fun ls hl => ?_)
                                refine lv_iload hx hb dX4_right_167 (lv_at hl 1 rfl) ?_
                                refine lv_if_eq (tgt := 177) hx hb dX4_right_169 (by decide) (fun c169_25 => ?_) (fun c169_25 => ?_)
                                · skip
                                  have hpz1 := c169_25
                                  refine lv_iconst (v := 1) hx hb dX4_right_177 (by decide) ?_
                                  refine lv_goto (tgt := 182) hx hb dX4_right_178 (by decide) ?_
                                  refine lv_istore_n (lv' := [(2, .int 1), (8, .int (o2i (tq k))), (7, .int (ptR ef (sc, ar) a x 1)), (6, .int (nI (0 + 1))), (5, .int (nI a)), (4, .int x), (3, .int (nI k)), (1, .int (nI S.length)), (0, .ref (AB 0))]) hx hb dX4_right_182 rfl hl (by decide) rfl (fun ls hl => ?_)
                                  refine lv_iload hx hb dX4_right_183 (lv_at hl 2 rfl) ?_
                                  refine lv_if_le (tgt := 211) hx hb dX4_right_185 (by decide) (fun c185_26 => ?_) (fun c185_26 => ?_)
                                  · skip
                                    obtain ⟨y27, ey27⟩ : ∃ y : Int32, y = (nI (0 + 1)) + 1 := ⟨_, rfl⟩
                                    refine lv_iinc (v := y27) (lv' := [(6, .int y27), (2, .int 1), (8, .int (o2i (tq k))), (7, .int (ptR ef (sc, ar) a x 1)), (5, .int (nI a)), (4, .int x), (3, .int (nI k)), (1, .int (nI S.length)), (0, .ref (AB 0))]) hx hb dX4_right_211 hl (k := 3) rfl (by rw [ey27]; rfl) (by decide) rfl (fun ls hl => ?_)
                                    obtain rfl : y27 = nI ((0 + 1) + 1) := ey27.trans (nI_1 (0 + 1))
                                    refine lv_goto (tgt := 118) hx hb dX4_right_214 (by decide) ?_
                                    refine lv_iload hx hb dX4_right_118 (lv_at hl 0 rfl) ?_
                                    refine lv_iconst (v := 2) hx hb dX4_right_120 (by decide) ?_
                                    refine lv_icmp_ge (tgt := 217) hx hb dX4_right_121 (by decide) (fun c121_28 => ?_) (fun c121_28 => ?_)
                                    · skip
                                      refine lv_goto (tgt := 58) hx hb dX4_right_217 (by decide) ?_
                                      exact ih ls H locs ⟨S, true, wk, wb, hP, hD, hS, by rw [show 31 - (j + 1) = f by omega]; exact hN.pop true (by rw [fx_node hT hkc hx0 hta, hus, fc_0 hpz0, fc_0 hpz1]; rfl), lv_sub hl [8, 7, 1] rfl⟩ (by omega)
                                    · exact absurd (by decide) c121_28
                                  · exact absurd (by rw [hpz1]; decide) c185_26
                                · skip
                                  have hpn1 := c169_25
                                  refine lv_iload hx hb dX4_right_172 (lv_at hl 0 rfl) ?_
                                  refine lv_if_lt (tgt := 181) hx hb dX4_right_174 (by decide) (fun c174_29 => ?_) (fun c174_29 => ?_)
                                  · skip
                                    have hto1 : tq k = none := o2i_neg (N := c0) (by omega) (fun q h9 => (hT4.2 q h9).1) (Int32.not_le.mpr c174_29)
                                    refine lv_iconst (v := 0) hx hb dX4_right_181 (by decide) ?_
                                    refine lv_istore_n (lv' := [(2, .int 0), (8, .int (o2i (tq k))), (7, .int (ptR ef (sc, ar) a x 1)), (6, .int (nI (0 + 1))), (5, .int (nI a)), (4, .int x), (3, .int (nI k)), (1, .int (nI S.length)), (0, .ref (AB 0))]) hx hb dX4_right_182 rfl hl (by decide) rfl (fun ls hl => ?_)
                                    refine lv_iload hx hb dX4_right_183 (lv_at hl 2 rfl) ?_
                                    refine lv_if_le (tgt := 211) hx hb dX4_right_185 (by decide) (fun c185_30 => ?_) (fun c185_30 => ?_)
                                    · exact absurd c185_30 (Int32.not_le.mpr (pos16 (hp16 a ha8 x 1) hpn1))
                                    · skip
                                      refine lv_iload_n hx hb dX4_right_188 rfl (lv_at hl 0 rfl) ?_
                                      refine lv_if_eq (tgt := 211) hx hb dX4_right_189 (by decide) (fun c189_31 => ?_) (fun c189_31 => ?_)
                                      · skip
                                        obtain ⟨y32, ey32⟩ : ∃ y : Int32, y = (nI (0 + 1)) + 1 := ⟨_, rfl⟩
                                        refine lv_iinc (v := y32) (lv' := [(6, .int y32), (2, .int 0), (8, .int (o2i (tq k))), (7, .int (ptR ef (sc, ar) a x 1)), (5, .int (nI a)), (4, .int x), (3, .int (nI k)), (1, .int (nI S.length)), (0, .ref (AB 0))]) hx hb dX4_right_211 hl (k := 3) rfl (by rw [ey32]; rfl) (by decide) rfl (fun ls hl => ?_)
                                        obtain rfl : y32 = nI ((0 + 1) + 1) := ey32.trans (nI_1 (0 + 1))
                                        refine lv_goto (tgt := 118) hx hb dX4_right_214 (by decide) ?_
                                        refine lv_iload hx hb dX4_right_118 (lv_at hl 0 rfl) ?_
                                        refine lv_iconst (v := 2) hx hb dX4_right_120 (by decide) ?_
                                        refine lv_icmp_ge (tgt := 217) hx hb dX4_right_121 (by decide) (fun c121_33 => ?_) (fun c121_33 => ?_)
                                        · skip
                                          refine lv_goto (tgt := 58) hx hb dX4_right_217 (by decide) ?_
                                          exact ih ls H locs ⟨S, false, wk, wb, hP, hD, hS, by rw [show 31 - (j + 1) = f by omega]; exact hN.pop false (by rw [fx_node hT hkc hx0 hta, hus, fc_0 hpz0, fc_no hpn1 hto1]; rfl), lv_sub hl [8, 7, 1] rfl⟩ (by omega)
                                        · exact absurd (by decide) c121_33
                                      · exact absurd rfl c189_31
                                  · skip
                                    obtain ⟨j1, hto1⟩ := o2i_some (Int32.not_lt.mp c174_29)
                                    rw [hto1] at hl
                                    have hl : lv_has ls 9 [(8, .int (nI j1)), (7, .int (ptR ef (sc, ar) a x 1)), (6, .int (nI (0 + 1))), (2, .int 1), (5, .int (nI a)), (4, .int x), (3, .int (nI k)), (1, .int (nI S.length)), (0, .ref (AB 0))] := hl
                                    refine lv_iconst (v := 1) hx hb dX4_right_177 (by decide) ?_
                                    refine lv_goto (tgt := 182) hx hb dX4_right_178 (by decide) ?_
                                    refine lv_istore_n (lv' := [(2, .int 1), (8, .int (nI j1)), (7, .int (ptR ef (sc, ar) a x 1)), (6, .int (nI (0 + 1))), (5, .int (nI a)), (4, .int x), (3, .int (nI k)), (1, .int (nI S.length)), (0, .ref (AB 0))]) hx hb dX4_right_182 rfl hl (by decide) rfl (fun ls hl => ?_)
                                    refine lv_iload hx hb dX4_right_183 (lv_at hl 2 rfl) ?_
                                    refine lv_if_le (tgt := 211) hx hb dX4_right_185 (by decide) (fun c185_34 => ?_) (fun c185_34 => ?_)
                                    · exact absurd c185_34 (Int32.not_le.mpr (pos16 (hp16 a ha8 x 1) hpn1))
                                    · skip
                                      refine lv_iload_n hx hb dX4_right_188 rfl (lv_at hl 0 rfl) ?_
                                      refine lv_if_eq (tgt := 211) hx hb dX4_right_189 (by decide) (fun c189_35 => ?_) (fun c189_35 => ?_)
                                      · exact absurd c189_35 (by decide)
                                      · skip
                                        refine lv_aload_n hx hb dX4_right_192 rfl (lv_at hl 8 rfl) ?_
                                        refine va_get (D := (dC, dI)) (ci := 4) (v := .ref (AB 26)) (C := RX4) (T := TX4) (N := 33) hx hb hts hinX4 hown hK hP 0 rfl rfl 26 (by decide) (hts _ (List.mem_of_getElem? (i := 3) rfl)) (fun _ h9 => h9) rfl dX4_right_193 ?_
                                        refine lv_iload_n hx hb dX4_right_196 rfl (lv_at hl 7 rfl) ?_
                                        refine lv_iload hx hb dX4_right_197 (lv_at hl 1 rfl) ?_
                                        refine va_iast hx hb hK hP hD hS 22 0 rfl rfl (vp_in_nI (show S.length < 64 by omega) (by decide)) dX4_right_199 (fun H locs hP hD hS => ?_)
                                        rw [nI_clamp (show S.length < 2 ^ 31 by have := (show S.length < 64 by omega); omega)] at hP hD
                                        have hP : va_P (dC, dI) vwCl (mL AB cI cZ (va_up sc 0 0) (va_up (va_up ar 26 (upd wk S.length (nI j1))) 27 wb)) H := hP
                                        have hD : va_D V (mL AB cI cZ (va_up sc 0 0) (va_up (va_up ar 26 (upd wk S.length (nI j1))) 27 wb)) := hD
                                        refine lv_aload_n hx hb dX4_right_200 rfl (lv_at hl 8 rfl) ?_
                                        refine va_get (D := (dC, dI)) (ci := 4) (v := .ref (AB 27)) (C := RX4) (T := TX4) (N := 33) hx hb hts hinX4 hown hK hP 0 rfl rfl 27 (by decide) (hts _ (List.mem_of_getElem? (i := 4) rfl)) (fun _ h9 => h9) rfl dX4_right_201 ?_
                                        refine lv_iload_n hx hb dX4_right_204 rfl (lv_at hl 7 rfl) ?_
                                        refine lv_iload hx hb dX4_right_205 (lv_at hl 2 rfl) ?_
                                        refine va_iast hx hb hK hP hD hS 23 0 rfl rfl (vp_in_nI (show S.length < 64 by omega) (by decide)) dX4_right_207 (fun H locs hP hD hS => ?_)
                                        rw [nI_clamp (show S.length < 2 ^ 31 by have := (show S.length < 64 by omega); omega)] at hP hD
                                        have hP : va_P (dC, dI) vwCl (mL AB cI cZ (va_up sc 0 0) (va_up (va_up ar 26 (upd wk S.length (nI j1))) 27 (upd wb S.length (ptR ef (sc, ar) a x 1)))) H := hP
                                        have hD : va_D V (mL AB cI cZ (va_up sc 0 0) (va_up (va_up ar 26 (upd wk S.length (nI j1))) 27 (upd wb S.length (ptR ef (sc, ar) a x 1)))) := hD
                                        obtain ⟨y36, ey36⟩ : ∃ y : Int32, y = (nI S.length) + 1 := ⟨_, rfl⟩
                                        refine lv_iinc (v := y36) (lv' := [(1, .int y36), (2, .int 1), (8, .int (nI j1)), (7, .int (ptR ef (sc, ar) a x 1)), (6, .int (nI (0 + 1))), (5, .int (nI a)), (4, .int x), (3, .int (nI k)), (0, .ref (AB 0))]) hx hb dX4_right_208 hl (k := 7) rfl (by rw [ey36]; rfl) (by decide) rfl (fun ls hl => ?_)
                                        obtain rfl : y36 = nI (S.length + 1) := ey36.trans (nI_1 S.length)
                                        obtain ⟨y37, ey37⟩ : ∃ y : Int32, y = (nI (0 + 1)) + 1 := ⟨_, rfl⟩
                                        refine lv_iinc (v := y37) (lv' := [(6, .int y37), (1, .int (nI (S.length + 1))), (2, .int 1), (8, .int (nI j1)), (7, .int (ptR ef (sc, ar) a x 1)), (5, .int (nI a)), (4, .int x), (3, .int (nI k)), (0, .ref (AB 0))]) hx hb dX4_right_211 hl (k := 4) rfl (by rw [ey37]; rfl) (by decide) rfl (fun ls hl => ?_)
                                        obtain rfl : y37 = nI ((0 + 1) + 1) := ey37.trans (nI_1 (0 + 1))
                                        refine lv_goto (tgt := 118) hx hb dX4_right_214 (by decide) ?_
                                        refine lv_iload hx hb dX4_right_118 (lv_at hl 0 rfl) ?_
                                        refine lv_iconst (v := 2) hx hb dX4_right_120 (by decide) ?_
                                        refine lv_icmp_ge (tgt := 217) hx hb dX4_right_121 (by decide) (fun c121_38 => ?_) (fun c121_38 => ?_)
                                        · skip
                                          refine lv_goto (tgt := 58) hx hb dX4_right_217 (by decide) ?_
                                          exact ih ls H locs ⟨((j1, ptR ef (sc, ar) a x 1) :: S), true, (upd wk S.length (nI j1)), (upd wb S.length (ptR ef (sc, ar) a x 1)), hP, hD, hS, by rw [show 31 - (j + 1) = f by omega]; exact hN.one (by rw [fx_node hT hkc hx0 hta, hus, fc_0 hpz0, fc_at hpn1 hto1]; rfl) (hT4.2 j1 hto1) (hp16 a ha8 x 1) hpn1, lv_sub hl [8, 1, 2] rfl⟩ (by omega)
                                        · exact absurd (by decide) c121_38
                              · exact absurd c147_23 (by decide)
                      · exact absurd (by rw [hpz0]; decide) c185_18
                    · skip
                      have hpn0 := c169_17
                      refine lv_iload hx hb dX4_right_172 (lv_at hl 0 rfl) ?_
                      refine lv_if_lt (tgt := 181) hx hb dX4_right_174 (by decide) (fun c174_39 => ?_) (fun c174_39 => ?_)
                      · skip
                        have hto0 : tp k = none := o2i_neg (N := c0) (by omega) (fun q h9 => (hT4.1 q h9).1) (Int32.not_le.mpr c174_39)
                        refine lv_iconst (v := 0) hx hb dX4_right_181 (by decide) ?_
                        refine lv_istore_n (lv' := [(2, .int 0), (8, .int (o2i (tp k))), (7, .int (ptR ef (sc, ar) a x 0)), (6, .int (nI 0)), (5, .int (nI a)), (4, .int x), (3, .int (nI k)), (1, .int (nI S.length)), (0, .ref (AB 0))]) hx hb dX4_right_182 rfl hl (by decide) rfl (fun ls hl => ?_)
                        refine lv_iload hx hb dX4_right_183 (lv_at hl 2 rfl) ?_
                        refine lv_if_le (tgt := 211) hx hb dX4_right_185 (by decide) (fun c185_40 => ?_) (fun c185_40 => ?_)
                        · exact absurd c185_40 (Int32.not_le.mpr (pos16 (hp16 a ha8 x 0) hpn0))
                        · skip
                          refine lv_iload_n hx hb dX4_right_188 rfl (lv_at hl 0 rfl) ?_
                          refine lv_if_eq (tgt := 211) hx hb dX4_right_189 (by decide) (fun c189_41 => ?_) (fun c189_41 => ?_)
                          · skip
                            obtain ⟨y42, ey42⟩ : ∃ y : Int32, y = (nI 0) + 1 := ⟨_, rfl⟩
                            refine lv_iinc (v := y42) (lv' := [(6, .int y42), (2, .int 0), (8, .int (o2i (tp k))), (7, .int (ptR ef (sc, ar) a x 0)), (5, .int (nI a)), (4, .int x), (3, .int (nI k)), (1, .int (nI S.length)), (0, .ref (AB 0))]) hx hb dX4_right_211 hl (k := 3) rfl (by rw [ey42]; rfl) (by decide) rfl (fun ls hl => ?_)
                            obtain rfl : y42 = nI (0 + 1) := ey42.trans (nI_1 0)
                            refine lv_goto (tgt := 118) hx hb dX4_right_214 (by decide) ?_
                            refine lv_iload hx hb dX4_right_118 (lv_at hl 0 rfl) ?_
                            refine lv_iconst (v := 2) hx hb dX4_right_120 (by decide) ?_
                            refine lv_icmp_ge (tgt := 217) hx hb dX4_right_121 (by decide) (fun c121_43 => ?_) (fun c121_43 => ?_)
                            · exact absurd c121_43 (by decide)
                            · skip
                              refine lv_iload_n hx hb dX4_right_124 rfl (lv_at hl 1 rfl) ?_
                              refine lv_if_eq (tgt := 217) hx hb dX4_right_125 (by decide) (fun c125_44 => ?_) (fun c125_44 => ?_)
                              · skip
                                refine lv_goto (tgt := 58) hx hb dX4_right_217 (by decide) ?_
                                exact ih ls H locs ⟨S, false, wk, wb, hP, hD, hS, by rw [show 31 - (j + 1) = f by omega]; exact hN.pop false (by rw [fx_node hT hkc hx0 hta, hus, fc_no hpn0 hto0]; rfl), lv_sub hl [8, 7, 1] rfl⟩ (by omega)
                              · exact absurd rfl c125_44
                          · exact absurd rfl c189_41
                      · skip
                        obtain ⟨j0, hto0⟩ := o2i_some (Int32.not_lt.mp c174_39)
                        rw [hto0] at hl
                        have hl : lv_has ls 9 [(8, .int (nI j0)), (7, .int (ptR ef (sc, ar) a x 0)), (6, .int (nI 0)), (2, .int (b2i (usR th (sc, ar) a x))), (5, .int (nI a)), (4, .int x), (3, .int (nI k)), (1, .int (nI S.length)), (0, .ref (AB 0))] := hl
                        refine lv_iconst (v := 1) hx hb dX4_right_177 (by decide) ?_
                        refine lv_goto (tgt := 182) hx hb dX4_right_178 (by decide) ?_
                        refine lv_istore_n (lv' := [(2, .int 1), (8, .int (nI j0)), (7, .int (ptR ef (sc, ar) a x 0)), (6, .int (nI 0)), (5, .int (nI a)), (4, .int x), (3, .int (nI k)), (1, .int (nI S.length)), (0, .ref (AB 0))]) hx hb dX4_right_182 rfl hl (by decide) rfl (fun ls hl => ?_)
                        refine lv_iload hx hb dX4_right_183 (lv_at hl 2 rfl) ?_
                        refine lv_if_le (tgt := 211) hx hb dX4_right_185 (by decide) (fun c185_45 => ?_) (fun c185_45 => ?_)
                        · exact absurd c185_45 (Int32.not_le.mpr (pos16 (hp16 a ha8 x 0) hpn0))
                        · skip
                          refine lv_iload_n hx hb dX4_right_188 rfl (lv_at hl 0 rfl) ?_
                          refine lv_if_eq (tgt := 211) hx hb dX4_right_189 (by decide) (fun c189_46 => ?_) (fun c189_46 => ?_)
                          · exact absurd c189_46 (by decide)
                          · skip
                            refine lv_aload_n hx hb dX4_right_192 rfl (lv_at hl 8 rfl) ?_
                            refine va_get (D := (dC, dI)) (ci := 4) (v := .ref (AB 26)) (C := RX4) (T := TX4) (N := 33) hx hb hts hinX4 hown hK hP 0 rfl rfl 26 (by decide) (hts _ (List.mem_of_getElem? (i := 3) rfl)) (fun _ h9 => h9) rfl dX4_right_193 ?_
                            refine lv_iload_n hx hb dX4_right_196 rfl (lv_at hl 7 rfl) ?_
                            refine lv_iload hx hb dX4_right_197 (lv_at hl 1 rfl) ?_
                            refine va_iast hx hb hK hP hD hS 22 0 rfl rfl (vp_in_nI (show S.length < 64 by omega) (by decide)) dX4_right_199 (fun H locs hP hD hS => ?_)
                            rw [nI_clamp (show S.length < 2 ^ 31 by have := (show S.length < 64 by omega); omega)] at hP hD
                            have hP : va_P (dC, dI) vwCl (mL AB cI cZ (va_up sc 0 0) (va_up (va_up ar 26 (upd wk S.length (nI j0))) 27 wb)) H := hP
                            have hD : va_D V (mL AB cI cZ (va_up sc 0 0) (va_up (va_up ar 26 (upd wk S.length (nI j0))) 27 wb)) := hD
                            refine lv_aload_n hx hb dX4_right_200 rfl (lv_at hl 8 rfl) ?_
                            refine va_get (D := (dC, dI)) (ci := 4) (v := .ref (AB 27)) (C := RX4) (T := TX4) (N := 33) hx hb hts hinX4 hown hK hP 0 rfl rfl 27 (by decide) (hts _ (List.mem_of_getElem? (i := 4) rfl)) (fun _ h9 => h9) rfl dX4_right_201 ?_
                            refine lv_iload_n hx hb dX4_right_204 rfl (lv_at hl 7 rfl) ?_
                            refine lv_iload hx hb dX4_right_205 (lv_at hl 2 rfl) ?_
                            refine va_iast hx hb hK hP hD hS 23 0 rfl rfl (vp_in_nI (show S.length < 64 by omega) (by decide)) dX4_right_207 (fun H locs hP hD hS => ?_)
                            rw [nI_clamp (show S.length < 2 ^ 31 by have := (show S.length < 64 by omega); omega)] at hP hD
                            have hP : va_P (dC, dI) vwCl (mL AB cI cZ (va_up sc 0 0) (va_up (va_up ar 26 (upd wk S.length (nI j0))) 27 (upd wb S.length (ptR ef (sc, ar) a x 0)))) H := hP
                            have hD : va_D V (mL AB cI cZ (va_up sc 0 0) (va_up (va_up ar 26 (upd wk S.length (nI j0))) 27 (upd wb S.length (ptR ef (sc, ar) a x 0)))) := hD
                            obtain ⟨y47, ey47⟩ : ∃ y : Int32, y = (nI S.length) + 1 := ⟨_, rfl⟩
                            refine lv_iinc (v := y47) (lv' := [(1, .int y47), (2, .int 1), (8, .int (nI j0)), (7, .int (ptR ef (sc, ar) a x 0)), (6, .int (nI 0)), (5, .int (nI a)), (4, .int x), (3, .int (nI k)), (0, .ref (AB 0))]) hx hb dX4_right_208 hl (k := 7) rfl (by rw [ey47]; rfl) (by decide) rfl (fun ls hl => ?_)
                            obtain rfl : y47 = nI (S.length + 1) := ey47.trans (nI_1 S.length)
                            obtain ⟨y48, ey48⟩ : ∃ y : Int32, y = (nI 0) + 1 := ⟨_, rfl⟩
                            refine lv_iinc (v := y48) (lv' := [(6, .int y48), (1, .int (nI (S.length + 1))), (2, .int 1), (8, .int (nI j0)), (7, .int (ptR ef (sc, ar) a x 0)), (5, .int (nI a)), (4, .int x), (3, .int (nI k)), (0, .ref (AB 0))]) hx hb dX4_right_211 hl (k := 4) rfl (by rw [ey48]; rfl) (by decide) rfl (fun ls hl => ?_)
                            obtain rfl : y48 = nI (0 + 1) := ey48.trans (nI_1 0)
                            refine lv_goto (tgt := 118) hx hb dX4_right_214 (by decide) ?_
                            refine lv_iload hx hb dX4_right_118 (lv_at hl 0 rfl) ?_
                            refine lv_iconst (v := 2) hx hb dX4_right_120 (by decide) ?_
                            refine lv_icmp_ge (tgt := 217) hx hb dX4_right_121 (by decide) (fun c121_49 => ?_) (fun c121_49 => ?_)
                            · exact absurd c121_49 (by decide)
                            · skip
                              refine lv_iload_n hx hb dX4_right_124 rfl (lv_at hl 2 rfl) ?_
                              refine lv_if_eq (tgt := 217) hx hb dX4_right_125 (by decide) (fun c125_50 => ?_) (fun c125_50 => ?_)
                              · exact absurd c125_50 (by decide)
                              · skip
                                refine lv_iload hx hb dX4_right_128 (lv_at hl 5 rfl) ?_
                                refine lv_if_lt (tgt := 217) hx hb dX4_right_130 (by decide) (fun c130_51 => ?_) (fun c130_51 => ?_)
                                · exact absurd c130_51 (nI_ge0 (by omega))
                                · skip
                                  refine lv_aload_n hx hb dX4_right_133 rfl (lv_at hl 8 rfl) ?_
                                  refine lv_iload hx hb dX4_right_134 (lv_at hl 5 rfl) ?_
                                  refine lv_iload hx hb dX4_right_136 (lv_at hl 6 rfl) ?_
                                  refine lv_iload hx hb dX4_right_138 (lv_at hl 0 rfl) ?_
                                  refine vp_callSi (W.runV (As := [.int (nI a), .int x, .int (nI (0 + 1))]) (rest := []) ⟨hx, hb, hml, hown, hts⟩ (m_part l dC dI AB cI cZ (va_up sc 0 0, va_up (va_up ar 26 (upd wk S.length (nI j0))) 27 (upd wb S.length (ptR ef (sc, ar) a x 0))) ef ha8 ((frz_sc (frz_up (frz_up frz.rf (by decide)) (by decide)) (by decide)).mok hM _ ha8).2.1 (hM _ ha8).2.2 x (nI (0 + 1))) (cwV 3 hts gX4_right_X4_part rfl rfl rfl (by decide +kernel) ⟨Nat.le_of_ble_eq_true rfl, Nat.le_of_ble_eq_true rfl⟩) ⟨bm_P, va_recv hK hP (ci := 4) (q0 := 0) rfl rfl, fun U hU hW => ⟨rfl, by rw [hU]; exact hP, va_K.moved hW.alike hK⟩⟩ rfl rfl hl.1 rfl (lv_room (Nat.le_of_ble_eq_true rfl)) dX4_right_140 ⟨Nat.zero_le _, Nat.zero_le _⟩) (fun r er => ?_)
                                  obtain rfl : r = ptR ef (sc, ar) a x 1 := er.trans (congrFun (congrFun (congrFun ((frz_sc (frz_up (frz_up frz.rf (by decide)) (by decide)) (by decide)).pt ef) a) x) 1)
                                  refine lv_istore (lv' := [(7, .int (ptR ef (sc, ar) a x 1)), (6, .int (nI (0 + 1))), (1, .int (nI (S.length + 1))), (2, .int 1), (8, .int (nI j0)), (5, .int (nI a)), (4, .int x), (3, .int (nI k)), (0, .ref (AB 0))]) hx hb dX4_right_143 hl (by decide) rfl (fun ls hl => ?_)
                                  refine lv_iload hx hb dX4_right_145 (lv_at hl 1 rfl) ?_
                                  refine lv_if_ne (tgt := 159) hx hb dX4_right_147 (by decide) (fun c147_52 => ?_) (fun c147_52 => ?_)
                                  · skip
                                    refine lv_aload_n hx hb dX4_right_159 rfl (lv_at hl 8 rfl) ?_
                                    refine va_get (D := (dC, dI)) (ci := 4) (v := .ref (AB 18)) (C := RX4) (T := TX4) (N := 33) hx hb hts hinX4 hown hK hP 0 rfl rfl 18 (by decide) (hts _ (List.mem_of_getElem? (i := 7) rfl)) (fun _ h9 => h9) rfl dX4_right_160 ?_
                                    refine lv_iload_n hx hb dX4_right_163 rfl (lv_at hl 7 rfl) ?_
                                    refine va_iald hx hb hK hP 14 0 rfl rfl (vp_in_nI (show k < 32 by omega) (by decide)) dX4_right_164 ?_
                                    rw [nI_clamp (show k < 2 ^ 31 by have := (show k < 32 by omega); omega)]
                                    refine lv_topi (fun y53 ey53 => ?_)
                                    obtain rfl : y53 = o2i (tq k) := ey53.trans (e18)
                                    refine lv_istore (lv' := [(8, .int (o2i (tq k))), (7, .int (ptR ef (sc, ar) a x 1)), (6, .int (nI (0 + 1))), (1, .int (nI (S.length + 1))), (2, .int 1), (5, .int (nI a)), (4, .int x), (3, .int (nI k)), (0, .ref (AB 0))]) hx hb dX4_right_165 hl (by decide) rfl (fun ls hl => ?_)
                                    refine lv_iload hx hb dX4_right_167 (lv_at hl 1 rfl) ?_
                                    refine lv_if_eq (tgt := 177) hx hb dX4_right_169 (by decide) (fun c169_54 => ?_) (fun c169_54 => ?_)
                                    · skip
                                      have hpz1 := c169_54
                                      refine lv_iconst (v := 1) hx hb dX4_right_177 (by decide) ?_
                                      refine lv_goto (tgt := 182) hx hb dX4_right_178 (by decide) ?_
                                      refine lv_istore_n (lv' := [(2, .int 1), (8, .int (o2i (tq k))), (7, .int (ptR ef (sc, ar) a x 1)), (6, .int (nI (0 + 1))), (1, .int (nI (S.length + 1))), (5, .int (nI a)), (4, .int x), (3, .int (nI k)), (0, .ref (AB 0))]) hx hb dX4_right_182 rfl hl (by decide) rfl (fun ls hl => ?_)
                                      refine lv_iload hx hb dX4_right_183 (lv_at hl 2 rfl) ?_
                                      refine lv_if_le (tgt := 211) hx hb dX4_right_185 (by decide) (fun c185_55 => ?_) (fun c185_55 => ?_)
                                      · skip
                                        obtain ⟨y56, ey56⟩ : ∃ y : Int32, y = (nI (0 + 1)) + 1 := ⟨_, rfl⟩
                                        refine lv_iinc (v := y56) (lv' := [(6, .int y56), (2, .int 1), (8, .int (o2i (tq k))), (7, .int (ptR ef (sc, ar) a x 1)), (1, .int (nI (S.length + 1))), (5, .int (nI a)), (4, .int x), (3, .int (nI k)), (0, .ref (AB 0))]) hx hb dX4_right_211 hl (k := 3) rfl (by rw [ey56]; rfl) (by decide) rfl (fun ls hl => ?_)
                                        obtain rfl : y56 = nI ((0 + 1) + 1) := ey56.trans (nI_1 (0 + 1))
                                        refine lv_goto (tgt := 118) hx hb dX4_right_214 (by decide) ?_
                                        refine lv_iload hx hb dX4_right_118 (lv_at hl 0 rfl) ?_
                                        refine lv_iconst (v := 2) hx hb dX4_right_120 (by decide) ?_
                                        refine lv_icmp_ge (tgt := 217) hx hb dX4_right_121 (by decide) (fun c121_57 => ?_) (fun c121_57 => ?_)
                                        · skip
                                          refine lv_goto (tgt := 58) hx hb dX4_right_217 (by decide) ?_
                                          exact ih ls H locs ⟨((j0, ptR ef (sc, ar) a x 0) :: S), true, (upd wk S.length (nI j0)), (upd wb S.length (ptR ef (sc, ar) a x 0)), hP, hD, hS, by rw [show 31 - (j + 1) = f by omega]; exact hN.one (by rw [fx_node hT hkc hx0 hta, hus, fc_at hpn0 hto0, fc_0 hpz1]; cases fxO (usR th (sc, ar)) (ptR ef (sc, ar)) (reR (sc, ar)) ta tp tq ht j0 (ptR ef (sc, ar) a x 0) <;> rfl) (hT4.1 j0 hto0) (hp16 a ha8 x 0) hpn0, lv_sub hl [8, 4, 1] rfl⟩ (by omega)
                                        · exact absurd (by decide) c121_57
                                      · exact absurd (by rw [hpz1]; decide) c185_55
                                    · skip
                                      have hpn1 := c169_54
                                      refine lv_iload hx hb dX4_right_172 (lv_at hl 0 rfl) ?_
                                      refine lv_if_lt (tgt := 181) hx hb dX4_right_174 (by decide) (fun c174_58 => ?_) (fun c174_58 => ?_)
                                      · skip
                                        have hto1 : tq k = none := o2i_neg (N := c0) (by omega) (fun q h9 => (hT4.2 q h9).1) (Int32.not_le.mpr c174_58)
                                        refine lv_iconst (v := 0) hx hb dX4_right_181 (by decide) ?_
                                        refine lv_istore_n (lv' := [(2, .int 0), (8, .int (o2i (tq k))), (7, .int (ptR ef (sc, ar) a x 1)), (6, .int (nI (0 + 1))), (1, .int (nI (S.length + 1))), (5, .int (nI a)), (4, .int x), (3, .int (nI k)), (0, .ref (AB 0))]) hx hb dX4_right_182 rfl hl (by decide) rfl (fun ls hl => ?_)
                                        refine lv_iload hx hb dX4_right_183 (lv_at hl 2 rfl) ?_
                                        refine lv_if_le (tgt := 211) hx hb dX4_right_185 (by decide) (fun c185_59 => ?_) (fun c185_59 => ?_)
                                        · exact absurd c185_59 (Int32.not_le.mpr (pos16 (hp16 a ha8 x 1) hpn1))
                                        · skip
                                          refine lv_iload_n hx hb dX4_right_188 rfl (lv_at hl 0 rfl) ?_
                                          refine lv_if_eq (tgt := 211) hx hb dX4_right_189 (by decide) (fun c189_60 => ?_) (fun c189_60 => ?_)
                                          · skip
                                            obtain ⟨y61, ey61⟩ : ∃ y : Int32, y = (nI (0 + 1)) + 1 := ⟨_, rfl⟩
                                            refine lv_iinc (v := y61) (lv' := [(6, .int y61), (2, .int 0), (8, .int (o2i (tq k))), (7, .int (ptR ef (sc, ar) a x 1)), (1, .int (nI (S.length + 1))), (5, .int (nI a)), (4, .int x), (3, .int (nI k)), (0, .ref (AB 0))]) hx hb dX4_right_211 hl (k := 3) rfl (by rw [ey61]; rfl) (by decide) rfl (fun ls hl => ?_)
                                            obtain rfl : y61 = nI ((0 + 1) + 1) := ey61.trans (nI_1 (0 + 1))
                                            refine lv_goto (tgt := 118) hx hb dX4_right_214 (by decide) ?_
                                            refine lv_iload hx hb dX4_right_118 (lv_at hl 0 rfl) ?_
                                            refine lv_iconst (v := 2) hx hb dX4_right_120 (by decide) ?_
                                            refine lv_icmp_ge (tgt := 217) hx hb dX4_right_121 (by decide) (fun c121_62 => ?_) (fun c121_62 => ?_)
                                            · skip
                                              refine lv_goto (tgt := 58) hx hb dX4_right_217 (by decide) ?_
                                              exact ih ls H locs ⟨((j0, ptR ef (sc, ar) a x 0) :: S), false, (upd wk S.length (nI j0)), (upd wb S.length (ptR ef (sc, ar) a x 0)), hP, hD, hS, by rw [show 31 - (j + 1) = f by omega]; exact hN.bad (by rw [fx_node hT hkc hx0 hta, hus, fc_at hpn0 hto0, fc_no hpn1 hto1]; cases fxO (usR th (sc, ar)) (ptR ef (sc, ar)) (reR (sc, ar)) ta tp tq ht j0 (ptR ef (sc, ar) a x 0) <;> rfl) (hT4.1 j0 hto0) (hp16 a ha8 x 0) hpn0, lv_sub hl [8, 4, 1] rfl⟩ (by omega)
                                            · exact absurd (by decide) c121_62
                                          · exact absurd rfl c189_60
                                      · skip
                                        obtain ⟨j1, hto1⟩ := o2i_some (Int32.not_lt.mp c174_58)
                                        rw [hto1] at hl
                                        have hl : lv_has ls 9 [(8, .int (nI j1)), (7, .int (ptR ef (sc, ar) a x 1)), (6, .int (nI (0 + 1))), (1, .int (nI (S.length + 1))), (2, .int 1), (5, .int (nI a)), (4, .int x), (3, .int (nI k)), (0, .ref (AB 0))] := hl
                                        refine lv_iconst (v := 1) hx hb dX4_right_177 (by decide) ?_
                                        refine lv_goto (tgt := 182) hx hb dX4_right_178 (by decide) ?_
                                        refine lv_istore_n (lv' := [(2, .int 1), (8, .int (nI j1)), (7, .int (ptR ef (sc, ar) a x 1)), (6, .int (nI (0 + 1))), (1, .int (nI (S.length + 1))), (5, .int (nI a)), (4, .int x), (3, .int (nI k)), (0, .ref (AB 0))]) hx hb dX4_right_182 rfl hl (by decide) rfl (fun ls hl => ?_)
                                        refine lv_iload hx hb dX4_right_183 (lv_at hl 2 rfl) ?_
                                        refine lv_if_le (tgt := 211) hx hb dX4_right_185 (by decide) (fun c185_63 => ?_) (fun c185_63 => ?_)
                                        · exact absurd c185_63 (Int32.not_le.mpr (pos16 (hp16 a ha8 x 1) hpn1))
                                        · skip
                                          refine lv_iload_n hx hb dX4_right_188 rfl (lv_at hl 0 rfl) ?_
                                          refine lv_if_eq (tgt := 211) hx hb dX4_right_189 (by decide) (fun c189_64 => ?_) (fun c189_64 => ?_)
                                          · exact absurd c189_64 (by decide)
                                          · skip
                                            refine lv_aload_n hx hb dX4_right_192 rfl (lv_at hl 8 rfl) ?_
                                            refine va_get (D := (dC, dI)) (ci := 4) (v := .ref (AB 26)) (C := RX4) (T := TX4) (N := 33) hx hb hts hinX4 hown hK hP 0 rfl rfl 26 (by decide) (hts _ (List.mem_of_getElem? (i := 3) rfl)) (fun _ h9 => h9) rfl dX4_right_193 ?_
                                            refine lv_iload_n hx hb dX4_right_196 rfl (lv_at hl 4 rfl) ?_
                                            refine lv_iload hx hb dX4_right_197 (lv_at hl 1 rfl) ?_
                                            refine va_iast hx hb hK hP hD hS 22 0 rfl rfl (vp_in_nI (show (S.length + 1) < 64 by omega) (by decide)) dX4_right_199 (fun H locs hP hD hS => ?_)
                                            rw [nI_clamp (show (S.length + 1) < 2 ^ 31 by have := (show (S.length + 1) < 64 by omega); omega)] at hP hD
                                            have hP : va_P (dC, dI) vwCl (mL AB cI cZ (va_up sc 0 0) (va_up (va_up ar 26 (upd (upd wk S.length (nI j0)) (S.length + 1) (nI j1))) 27 (upd wb S.length (ptR ef (sc, ar) a x 0)))) H := hP
                                            have hD : va_D V (mL AB cI cZ (va_up sc 0 0) (va_up (va_up ar 26 (upd (upd wk S.length (nI j0)) (S.length + 1) (nI j1))) 27 (upd wb S.length (ptR ef (sc, ar) a x 0)))) := hD
                                            refine lv_aload_n hx hb dX4_right_200 rfl (lv_at hl 8 rfl) ?_
                                            refine va_get (D := (dC, dI)) (ci := 4) (v := .ref (AB 27)) (C := RX4) (T := TX4) (N := 33) hx hb hts hinX4 hown hK hP 0 rfl rfl 27 (by decide) (hts _ (List.mem_of_getElem? (i := 4) rfl)) (fun _ h9 => h9) rfl dX4_right_201 ?_
                                            refine lv_iload_n hx hb dX4_right_204 rfl (lv_at hl 4 rfl) ?_
                                            refine lv_iload hx hb dX4_right_205 (lv_at hl 2 rfl) ?_
                                            refine va_iast hx hb hK hP hD hS 23 0 rfl rfl (vp_in_nI (show (S.length + 1) < 64 by omega) (by decide)) dX4_right_207 (fun H locs hP hD hS => ?_)
                                            rw [nI_clamp (show (S.length + 1) < 2 ^ 31 by have := (show (S.length + 1) < 64 by omega); omega)] at hP hD
                                            have hP : va_P (dC, dI) vwCl (mL AB cI cZ (va_up sc 0 0) (va_up (va_up ar 26 (upd (upd wk S.length (nI j0)) (S.length + 1) (nI j1))) 27 (upd (upd wb S.length (ptR ef (sc, ar) a x 0)) (S.length + 1) (ptR ef (sc, ar) a x 1)))) H := hP
                                            have hD : va_D V (mL AB cI cZ (va_up sc 0 0) (va_up (va_up ar 26 (upd (upd wk S.length (nI j0)) (S.length + 1) (nI j1))) 27 (upd (upd wb S.length (ptR ef (sc, ar) a x 0)) (S.length + 1) (ptR ef (sc, ar) a x 1)))) := hD
                                            obtain ⟨y65, ey65⟩ : ∃ y : Int32, y = (nI (S.length + 1)) + 1 := ⟨_, rfl⟩
                                            refine lv_iinc (v := y65) (lv' := [(1, .int y65), (2, .int 1), (8, .int (nI j1)), (7, .int (ptR ef (sc, ar) a x 1)), (6, .int (nI (0 + 1))), (5, .int (nI a)), (4, .int x), (3, .int (nI k)), (0, .ref (AB 0))]) hx hb dX4_right_208 hl (k := 4) rfl (by rw [ey65]; rfl) (by decide) rfl (fun ls hl => ?_)
                                            obtain rfl : y65 = nI ((S.length + 1) + 1) := ey65.trans (nI_1 (S.length + 1))
                                            obtain ⟨y66, ey66⟩ : ∃ y : Int32, y = (nI (0 + 1)) + 1 := ⟨_, rfl⟩
                                            refine lv_iinc (v := y66) (lv' := [(6, .int y66), (1, .int (nI ((S.length + 1) + 1))), (2, .int 1), (8, .int (nI j1)), (7, .int (ptR ef (sc, ar) a x 1)), (5, .int (nI a)), (4, .int x), (3, .int (nI k)), (0, .ref (AB 0))]) hx hb dX4_right_211 hl (k := 4) rfl (by rw [ey66]; rfl) (by decide) rfl (fun ls hl => ?_)
                                            obtain rfl : y66 = nI ((0 + 1) + 1) := ey66.trans (nI_1 (0 + 1))
                                            refine lv_goto (tgt := 118) hx hb dX4_right_214 (by decide) ?_
                                            refine lv_iload hx hb dX4_right_118 (lv_at hl 0 rfl) ?_
                                            refine lv_iconst (v := 2) hx hb dX4_right_120 (by decide) ?_
                                            refine lv_icmp_ge (tgt := 217) hx hb dX4_right_121 (by decide) (fun c121_67 => ?_) (fun c121_67 => ?_)
                                            · skip
                                              refine lv_goto (tgt := 58) hx hb dX4_right_217 (by decide) ?_
                                              exact ih ls H locs ⟨((j1, ptR ef (sc, ar) a x 1) :: (j0, ptR ef (sc, ar) a x 0) :: S), true, (upd (upd wk S.length (nI j0)) (S.length + 1) (nI j1)), (upd (upd wb S.length (ptR ef (sc, ar) a x 0)) (S.length + 1) (ptR ef (sc, ar) a x 1)), hP, hD, hS, by rw [show 31 - (j + 1) = f by omega]; exact hN.two (by rw [fx_node hT hkc hx0 hta, hus, fc_at hpn0 hto0, fc_at hpn1 hto1]; rfl) (hT4.1 j0 hto0) (hT4.2 j1 hto1) (hp16 a ha8 x 0) hpn0 (hp16 a ha8 x 1) hpn1, lv_sub hl [8, 1, 2] rfl⟩ (by omega)
                                            · exact absurd (by decide) c121_67
                                  · exact absurd c147_52 (by decide)
          · skip
            have hta : ta k = none := o2i_neg (N := 8) (by decide) (fun a h9 => ((hT.2 k hkc).2.1 a h9).1) c94_10
            refine lv_aload_n hx hb dX4_right_97 rfl (lv_at hl 4 rfl) ?_
            refine lv_iload hx hb dX4_right_98 (lv_at hl 1 rfl) ?_
            refine vp_callSi (W.runV (As := [.int x]) (rest := []) ⟨hx, hb, hml, hown, hts⟩ (m_reached l dC dI AB cI cZ (va_up sc 0 0, va_up (va_up ar 26 wk) 27 wb) x) (cwV 1 hts gX4_right_X4_reached rfl rfl rfl (by decide +kernel) ⟨Nat.le_of_ble_eq_true rfl, Nat.le_of_ble_eq_true rfl⟩) ⟨bm_P, va_recv hK hP (ci := 4) (q0 := 0) rfl rfl, fun U hU hW => ⟨rfl, by rw [hU]; exact hP, va_K.moved hW.alike hK⟩⟩ rfl rfl hl.1 rfl (lv_room (Nat.le_of_ble_eq_true rfl)) dX4_right_100 ⟨Nat.zero_le _, Nat.zero_le _⟩) (fun r er => ?_)
            obtain rfl : r = b2i (reR (sc, ar) x) := er.trans (by rw [(frz_sc (frz_up (frz_up frz.rf (by decide)) (by decide)) (by decide)).re])
            refine lv_goto (tgt := 114) hx hb dX4_right_103 (by decide) ?_
            refine lv_istore_n (lv' := [(2, .int (b2i (reR (sc, ar) x))), (5, .int (o2i (ta k))), (4, .int x), (3, .int (nI k)), (1, .int (nI S.length)), (0, .ref (AB 0))]) hx hb dX4_right_114 rfl hl (by decide) rfl (fun ls hl => ?_)
            refine lv_iconst (v := 0) hx hb dX4_right_115 (by decide) ?_
            refine lv_topi (fun y68 ey68 => ?_)
            obtain rfl : y68 = nI 0 := ey68.trans (rfl)
            refine lv_istore (lv' := [(6, .int (nI 0)), (2, .int (b2i (reR (sc, ar) x))), (5, .int (o2i (ta k))), (4, .int x), (3, .int (nI k)), (1, .int (nI S.length)), (0, .ref (AB 0))]) hx hb dX4_right_116 hl (by decide) rfl (fun ls hl => ?_)
            refine lv_iload hx hb dX4_right_118 (lv_at hl 0 rfl) ?_
            refine lv_iconst (v := 2) hx hb dX4_right_120 (by decide) ?_
            refine lv_icmp_ge (tgt := 217) hx hb dX4_right_121 (by decide) (fun c121_69 => ?_) (fun c121_69 => ?_)
            · exact absurd c121_69 (by decide)
            · skip
              refine lv_iload_n hx hb dX4_right_124 rfl (lv_at hl 1 rfl) ?_
              refine lv_if_eq (tgt := 217) hx hb dX4_right_125 (by decide) (fun c125_70 => ?_) (fun c125_70 => ?_)
              · skip
                refine lv_goto (tgt := 58) hx hb dX4_right_217 (by decide) ?_
                exact ih ls H locs ⟨S, _, wk, wb, hP, hD, hS, by rw [show 31 - (j + 1) = f by omega]; exact hN.pop _ (fx_leaf hx0 hta), lv_sub hl [6, 5, 1] rfl⟩ (by omega)
              · skip
                refine lv_iload hx hb dX4_right_128 (lv_at hl 2 rfl) ?_
                refine lv_if_lt (tgt := 217) hx hb dX4_right_130 (by decide) (fun c130_71 => ?_) (fun c130_71 => ?_)
                · skip
                  refine lv_goto (tgt := 58) hx hb dX4_right_217 (by decide) ?_
                  exact ih ls H locs ⟨S, _, wk, wb, hP, hD, hS, by rw [show 31 - (j + 1) = f by omega]; exact hN.pop _ (fx_leaf hx0 hta), lv_sub hl [6, 5, 1] rfl⟩ (by omega)
                · exact absurd (by rw [hta]; decide) c130_71
    · skip
      refine lv_iconst (v := 0) hx hb dX4_right_33 (by decide) ?_
      refine lv_goto (tgt := 38) hx hb dX4_right_34 (by decide) ?_
      refine lv_istore_n (lv' := [(1, .int 0), (0, .ref (AB 0))]) hx hb dX4_right_38 rfl hl (by decide) rfl (fun ls hl => ?_)
      refine lv_aload_n hx hb dX4_right_39 rfl (lv_at hl 1 rfl) ?_
      refine va_get (D := (dC, dI)) (ci := 4) (v := .ref (AB 26)) (C := RX4) (T := TX4) (N := 33) hx hb hts hinX4 hown hK hP 0 rfl rfl 26 (by decide) (hts _ (List.mem_of_getElem? (i := 3) rfl)) (fun _ h9 => h9) rfl dX4_right_40 ?_
      refine lv_iconst (v := 0) hx hb dX4_right_43 (by decide) ?_
      refine lv_topi (fun y72 ey72 => ?_)
      obtain rfl : y72 = nI 0 := ey72.trans (rfl)
      refine lv_iconst (v := 0) hx hb dX4_right_44 (by decide) ?_
      refine va_iast hx hb hK hP hD hS 22 0 rfl rfl (vp_in_nI (show 0 < 64 by omega) (by decide)) dX4_right_45 (fun H locs hP hD hS => ?_)
      rw [nI_clamp (show 0 < 2 ^ 31 by have := (show 0 < 64 by omega); omega)] at hP hD
      have hP : va_P (dC, dI) vwCl (mL AB cI cZ (va_up sc 0 0) (va_up ar 26 (upd (ar 26) 0 0))) H := hP
      have hD : va_D V (mL AB cI cZ (va_up sc 0 0) (va_up ar 26 (upd (ar 26) 0 0))) := hD
      refine lv_aload_n hx hb dX4_right_46 rfl (lv_at hl 1 rfl) ?_
      refine va_get (D := (dC, dI)) (ci := 4) (v := .ref (AB 27)) (C := RX4) (T := TX4) (N := 33) hx hb hts hinX4 hown hK hP 0 rfl rfl 27 (by decide) (hts _ (List.mem_of_getElem? (i := 4) rfl)) (fun _ h9 => h9) rfl dX4_right_47 ?_
      refine lv_iconst (v := 0) hx hb dX4_right_50 (by decide) ?_
      refine lv_topi (fun y73 ey73 => ?_)
      obtain rfl : y73 = nI 0 := ey73.trans (rfl)
      refine lv_aload_n hx hb dX4_right_51 rfl (lv_at hl 1 rfl) ?_
      refine vp_callSi (W.runV (As := []) (rest := [.int (nI 0), .ref (AB 27)]) ⟨hx, hb, hml, hown, hts⟩ (m_startBelief l dC dI AB cI cZ (va_up sc 0 0, va_up ar 26 (upd (ar 26) 0 0)) (C := C) hC hC6) (cwV 0 hts gX4_right_X4_startBelief rfl rfl rfl (by decide +kernel) ⟨Nat.le_of_ble_eq_true rfl, Nat.le_of_ble_eq_true rfl⟩) ⟨bm_P, va_recv hK hP (ci := 4) (q0 := 0) rfl rfl, fun U hU hW => ⟨rfl, by rw [hU]; exact hP, va_K.moved hW.alike hK⟩⟩ rfl rfl hl.1 rfl (lv_room (Nat.le_of_ble_eq_true rfl)) dX4_right_52 ⟨Nat.zero_le _, Nat.zero_le _⟩) (fun r er => ?_)
      obtain rfl : r = stR (sc, ar) C := er.trans (by rw [(frz_sc (frz_up frz.rf (by decide)) (by decide)).st])
      refine va_iast hx hb hK hP hD hS 23 0 rfl rfl (vp_in_nI (show 0 < 64 by omega) (by decide)) dX4_right_55 (fun H locs hP hD hS => ?_)
      rw [nI_clamp (show 0 < 2 ^ 31 by have := (show 0 < 64 by omega); omega)] at hP hD
      have hP : va_P (dC, dI) vwCl (mL AB cI cZ (va_up sc 0 0) (va_up (va_up ar 26 (upd (ar 26) 0 0)) 27 (upd (ar 27) 0 (stR (sc, ar) C)))) H := hP
      have hD : va_D V (mL AB cI cZ (va_up sc 0 0) (va_up (va_up ar 26 (upd (ar 26) 0 0)) 27 (upd (ar 27) 0 (stR (sc, ar) C)))) := hD
      refine lv_iconst (v := 1) hx hb dX4_right_56 (by decide) ?_
      refine lv_istore_n (lv' := [(2, .int 1), (1, .int 0), (0, .ref (AB 0))]) hx hb dX4_right_57 rfl hl (by decide) rfl (fun ls hl => ?_)
      refine w_loopH (pc := 58) 31 (fun j ls H locs => ∃ (S : List (Nat × Int32)) (g : Bool) (wk wb : Nat → Int32), va_P (dC, dI) vwCl (mL AB cI cZ (va_up sc 0 0) (va_up (va_up ar 26 wk) 27 wb)) H ∧ va_D V (mL AB cI cZ (va_up sc 0 0) (va_up (va_up ar 26 wk) 27 wb)) ∧ va_S V s.heap H locs ∧ rIv (usR th (sc, ar)) (ptR ef (sc, ar)) (reR (sc, ar)) c0 ta tp tq ht (fitO (usR th (sc, ar)) (ptR ef (sc, ar)) (reR (sc, ar)) ta tp tq 5 (some 0) (stR (sc, ar) C)) (31 - j) g S wk wb ∧ lv_has ls 9 [(0, .ref (AB 0)), (1, .int (nI S.length)), (2, .int (b2i g))]) ?_ 0 (Nat.zero_le _) ls _ _ ⟨[], true, upd (ar 26) 0 0, upd (ar 27) 0 (stR (sc, ar) C), hP, hD, hS, ⟨trivial, (fun q hq => absurd hq (by simp)), by show 0 ≤ 31; decide, by omega, by show (true && true) = _; rw [fitO_b0 c30_1]; rfl⟩, lv_sub hl [2, 1, 0] rfl⟩
      intro j ls H locs hk hI ih
      obtain ⟨S, g, wk, wb, hP, hD, hS, hN, hl⟩ := hI
      have hlen := hN.len
      refine lv_iload_n hx hb dX4_right_58 rfl (lv_at hl 1 rfl) ?_
      refine lv_if_le (tgt := 220) hx hb dX4_right_59 (by decide) (fun c59_74 => ?_) (fun c59_74 => ?_)
      · skip
        obtain rfl := nI_lenz (by omega) c59_74
        have hR := hN.2.2.2.2
        have hl : lv_has ls 9 [(0, .ref (AB 0)), (1, .int (nI 0)), (2, .int (b2i g))] := hl
        refine lv_iload_n hx hb dX4_right_220 rfl (lv_at hl 2 rfl) ?_
        exact W.zret hx hb hr (b2i_nar _) (fun t ht hW => ⟨⟨_, (va_up sc 0 0, va_up (va_up ar 26 wk) 27 wb), rfl, ⟨by show _ = b2i (fitO (usR th (sc, ar)) (ptR ef (sc, ar)) (reR (sc, ar)) ta tp tq 5 (some 0) (stR (sc, ar) C)); rw [← hR]; show b2i g = b2i (g && true); rw [Bool.and_true], wk, wb, rfl⟩, by rw [ht]; exact hP, hD⟩, hS.F ht⟩) hS.2.2 dX4_right_221
      · skip
        obtain ⟨⟨k, x⟩, S, rfl⟩ := nI_lenc c59_74
        have hl : lv_has ls 9 [(0, .ref (AB 0)), (1, .int (nI (S.length + 1))), (2, .int (b2i g))] := hl
        refine lv_iload_n hx hb dX4_right_62 rfl (lv_at hl 2 rfl) ?_
        refine lv_if_eq (tgt := 220) hx hb dX4_right_63 (by decide) (fun c63_75 => ?_) (fun c63_75 => ?_)
        · skip
          obtain rfl := b2i_0.mp c63_75
          have hR := hN.2.2.2.2
          refine lv_iload_n hx hb dX4_right_220 rfl (lv_at hl 2 rfl) ?_
          exact W.zret hx hb hr (b2i_nar _) (fun t ht hW => ⟨⟨_, (va_up sc 0 0, va_up (va_up ar 26 wk) 27 wb), rfl, ⟨by show _ = b2i (fitO (usR th (sc, ar)) (ptR ef (sc, ar)) (reR (sc, ar)) ta tp tq 5 (some 0) (stR (sc, ar) C)); rw [← hR]; rfl, wk, wb, rfl⟩, by rw [ht]; exact hP, hD⟩, hS.F ht⟩) hS.2.2 dX4_right_221
        · skip
          obtain rfl := b2i_n0.mp c63_75
          obtain ⟨f, hf⟩ := hN.f_pos
          rw [hf] at hN
          have hq3 := hN.2.1 (k, x) (List.mem_cons_self ..)
          have hkc : k < c0 := hq3.1
          have hx0 : ¬ x = 0 := hq3.2.2
          have hlen : S.length + 1 ≤ 31 := hlen
          obtain ⟨e16, e17, e18⟩ := hA0 k hkc
          have hT4 := (hT.2 k hkc).2.2
          obtain ⟨y76, ey76⟩ : ∃ y : Int32, y = (nI (S.length + 1)) + (-1) := ⟨_, rfl⟩
          refine lv_iinc (v := y76) (lv' := [(1, .int y76), (0, .ref (AB 0)), (2, .int (b2i true))]) hx hb dX4_right_66 hl (k := 1) rfl (by rw [ey76]; rfl) (by decide) rfl (fun ls hl => ?_)
          obtain rfl : y76 = nI S.length := ey76.trans (dpt_a (S.length + 1))
          refine lv_aload_n hx hb dX4_right_69 rfl (lv_at hl 1 rfl) ?_
          refine va_get (D := (dC, dI)) (ci := 4) (v := .ref (AB 26)) (C := RX4) (T := TX4) (N := 33) hx hb hts hinX4 hown hK hP 0 rfl rfl 26 (by decide) (hts _ (List.mem_of_getElem? (i := 3) rfl)) (fun _ h9 => h9) rfl dX4_right_70 ?_
          refine lv_iload_n hx hb dX4_right_73 rfl (lv_at hl 0 rfl) ?_
          refine va_iald hx hb hK hP 22 0 rfl rfl (vp_in_nI (show S.length < 64 by omega) (by decide)) dX4_right_74 ?_
          rw [nI_clamp (show S.length < 2 ^ 31 by have := (show S.length < 64 by omega); omega)]
          refine lv_topi (fun y77 ey77 => ?_)
          obtain rfl : y77 = nI k := ey77.trans (hN.1.1.1)
          refine lv_istore_n (lv' := [(3, .int (nI k)), (1, .int (nI S.length)), (0, .ref (AB 0)), (2, .int (b2i true))]) hx hb dX4_right_75 rfl hl (by decide) rfl (fun ls hl => ?_)
          refine lv_aload_n hx hb dX4_right_76 rfl (lv_at hl 2 rfl) ?_
          refine va_get (D := (dC, dI)) (ci := 4) (v := .ref (AB 27)) (C := RX4) (T := TX4) (N := 33) hx hb hts hinX4 hown hK hP 0 rfl rfl 27 (by decide) (hts _ (List.mem_of_getElem? (i := 4) rfl)) (fun _ h9 => h9) rfl dX4_right_77 ?_
          refine lv_iload_n hx hb dX4_right_80 rfl (lv_at hl 1 rfl) ?_
          refine va_iald hx hb hK hP 23 0 rfl rfl (vp_in_nI (show S.length < 64 by omega) (by decide)) dX4_right_81 ?_
          rw [nI_clamp (show S.length < 2 ^ 31 by have := (show S.length < 64 by omega); omega)]
          refine lv_topi (fun y78 ey78 => ?_)
          obtain rfl : x = y78 := (ey78.trans (hN.1.1.2)).symm
          refine lv_istore (lv' := [(4, .int x), (3, .int (nI k)), (1, .int (nI S.length)), (0, .ref (AB 0)), (2, .int (b2i true))]) hx hb dX4_right_82 hl (by decide) rfl (fun ls hl => ?_)
          refine lv_aload_n hx hb dX4_right_84 rfl (lv_at hl 3 rfl) ?_
          refine va_get (D := (dC, dI)) (ci := 4) (v := .ref (AB 16)) (C := RX4) (T := TX4) (N := 33) hx hb hts hinX4 hown hK hP 0 rfl rfl 16 (by decide) (hts _ (List.mem_of_getElem? (i := 5) rfl)) (fun _ h9 => h9) rfl dX4_right_85 ?_
          refine lv_iload_n hx hb dX4_right_88 rfl (lv_at hl 1 rfl) ?_
          refine va_iald hx hb hK hP 12 0 rfl rfl (vp_in_nI (show k < 32 by omega) (by decide)) dX4_right_89 ?_
          rw [nI_clamp (show k < 2 ^ 31 by have := (show k < 32 by omega); omega)]
          refine lv_topi (fun y79 ey79 => ?_)
          obtain rfl : y79 = o2i (ta k) := ey79.trans (e16)
          refine lv_istore (lv' := [(5, .int (o2i (ta k))), (4, .int x), (3, .int (nI k)), (1, .int (nI S.length)), (0, .ref (AB 0)), (2, .int (b2i true))]) hx hb dX4_right_90 hl (by decide) rfl (fun ls hl => ?_)
          refine lv_iload hx hb dX4_right_92 (lv_at hl 0 rfl) ?_
          refine lv_if_ge (tgt := 106) hx hb dX4_right_94 (by decide) (fun c94_80 => ?_) (fun c94_80 => ?_)
          · skip
            obtain ⟨a, hta⟩ := o2i_some c94_80
            have ha8 := ((hT.2 k hkc).2.1 a hta).1
            rw [hta] at hl
            have hl : lv_has ls 9 [(5, .int (nI a)), (4, .int x), (3, .int (nI k)), (1, .int (nI S.length)), (0, .ref (AB 0)), (2, .int (b2i true))] := hl
            refine lv_aload_n hx hb dX4_right_106 rfl (lv_at hl 4 rfl) ?_
            refine lv_iload hx hb dX4_right_107 (lv_at hl 0 rfl) ?_
            refine lv_iload hx hb dX4_right_109 (lv_at hl 1 rfl) ?_
            refine vp_callSi (W.runV (As := [.int (nI a), .int x]) (rest := []) ⟨hx, hb, hml, hown, hts⟩ (m_usable l dC dI AB cI cZ (va_up sc 0 0, va_up (va_up ar 26 wk) 27 wb) th ha8 ((frz_sc (frz_up (frz_up frz.rf (by decide)) (by decide)) (by decide)).mok hM _ ha8).1 x) (cwV 2 hts gX4_right_X4_usable rfl rfl rfl (by decide +kernel) ⟨Nat.le_of_ble_eq_true rfl, Nat.le_of_ble_eq_true rfl⟩) ⟨bm_P, va_recv hK hP (ci := 4) (q0 := 0) rfl rfl, fun U hU hW => ⟨rfl, by rw [hU]; exact hP, va_K.moved hW.alike hK⟩⟩ rfl rfl hl.1 rfl (lv_room (Nat.le_of_ble_eq_true rfl)) dX4_right_111 ⟨Nat.zero_le _, Nat.zero_le _⟩) (fun r er => ?_)
            obtain rfl : r = b2i (usR th (sc, ar) a x) := er.trans (by rw [(frz_sc (frz_up (frz_up frz.rf (by decide)) (by decide)) (by decide)).us])
            refine lv_istore_n (lv' := [(2, .int (b2i (usR th (sc, ar) a x))), (5, .int (nI a)), (4, .int x), (3, .int (nI k)), (1, .int (nI S.length)), (0, .ref (AB 0))]) hx hb dX4_right_114 rfl hl (by decide) rfl (fun ls hl => ?_)
            refine lv_iconst (v := 0) hx hb dX4_right_115 (by decide) ?_
            refine lv_topi (fun y81 ey81 => ?_)
            obtain rfl : y81 = nI 0 := ey81.trans (rfl)
            refine lv_istore (lv' := [(6, .int (nI 0)), (2, .int (b2i (usR th (sc, ar) a x))), (5, .int (nI a)), (4, .int x), (3, .int (nI k)), (1, .int (nI S.length)), (0, .ref (AB 0))]) hx hb dX4_right_116 hl (by decide) rfl (fun ls hl => ?_)
            refine lv_iload hx hb dX4_right_118 (lv_at hl 0 rfl) ?_
            refine lv_iconst (v := 2) hx hb dX4_right_120 (by decide) ?_
            refine lv_icmp_ge (tgt := 217) hx hb dX4_right_121 (by decide) (fun c121_82 => ?_) (fun c121_82 => ?_)
            · exact absurd c121_82 (by decide)
            · skip
              refine lv_iload_n hx hb dX4_right_124 rfl (lv_at hl 1 rfl) ?_
              refine lv_if_eq (tgt := 217) hx hb dX4_right_125 (by decide) (fun c125_83 => ?_) (fun c125_83 => ?_)
              · skip
                refine lv_goto (tgt := 58) hx hb dX4_right_217 (by decide) ?_
                exact ih ls H locs ⟨S, _, wk, wb, hP, hD, hS, by rw [show 31 - (j + 1) = f by omega]; exact hN.pop _ (by rw [fx_node hT hkc hx0 hta, b2i_0.mp c125_83]; rfl), lv_sub hl [6, 5, 1] rfl⟩ (by omega)
              · skip
                have hus := b2i_n0.mp c125_83
                refine lv_iload hx hb dX4_right_128 (lv_at hl 2 rfl) ?_
                refine lv_if_lt (tgt := 217) hx hb dX4_right_130 (by decide) (fun c130_84 => ?_) (fun c130_84 => ?_)
                · exact absurd c130_84 (nI_ge0 (by omega))
                · skip
                  refine lv_aload_n hx hb dX4_right_133 rfl (lv_at hl 6 rfl) ?_
                  refine lv_iload hx hb dX4_right_134 (lv_at hl 2 rfl) ?_
                  refine lv_iload hx hb dX4_right_136 (lv_at hl 3 rfl) ?_
                  refine lv_iload hx hb dX4_right_138 (lv_at hl 0 rfl) ?_
                  refine vp_callSi (W.runV (As := [.int (nI a), .int x, .int (nI 0)]) (rest := []) ⟨hx, hb, hml, hown, hts⟩ (m_part l dC dI AB cI cZ (va_up sc 0 0, va_up (va_up ar 26 wk) 27 wb) ef ha8 ((frz_sc (frz_up (frz_up frz.rf (by decide)) (by decide)) (by decide)).mok hM _ ha8).2.1 (hM _ ha8).2.2 x (nI 0)) (cwV 3 hts gX4_right_X4_part rfl rfl rfl (by decide +kernel) ⟨Nat.le_of_ble_eq_true rfl, Nat.le_of_ble_eq_true rfl⟩) ⟨bm_P, va_recv hK hP (ci := 4) (q0 := 0) rfl rfl, fun U hU hW => ⟨rfl, by rw [hU]; exact hP, va_K.moved hW.alike hK⟩⟩ rfl rfl hl.1 rfl (lv_room (Nat.le_of_ble_eq_true rfl)) dX4_right_140 ⟨Nat.zero_le _, Nat.zero_le _⟩) (fun r er => ?_)
                  obtain rfl : r = ptR ef (sc, ar) a x 0 := er.trans (congrFun (congrFun (congrFun ((frz_sc (frz_up (frz_up frz.rf (by decide)) (by decide)) (by decide)).pt ef) a) x) 0)
                  refine lv_istore (lv' := [(7, .int (ptR ef (sc, ar) a x 0)), (6, .int (nI 0)), (2, .int (b2i (usR th (sc, ar) a x))), (5, .int (nI a)), (4, .int x), (3, .int (nI k)), (1, .int (nI S.length)), (0, .ref (AB 0))]) hx hb dX4_right_143 hl (by decide) rfl (fun ls hl => ?_)
                  refine lv_iload hx hb dX4_right_145 (lv_at hl 1 rfl) ?_
                  refine lv_if_ne (tgt := 159) hx hb dX4_right_147 (by decide) (fun c147_85 => ?_) (fun c147_85 => ?_)
                  · exact absurd rfl c147_85
                  · skip
                    refine lv_aload_n hx hb dX4_right_150 rfl (lv_at hl 7 rfl) ?_
                    refine va_get (D := (dC, dI)) (ci := 4) (v := .ref (AB 17)) (C := RX4) (T := TX4) (N := 33) hx hb hts hinX4 hown hK hP 0 rfl rfl 17 (by decide) (hts _ (List.mem_of_getElem? (i := 6) rfl)) (fun _ h9 => h9) rfl dX4_right_151 ?_
                    refine lv_iload_n hx hb dX4_right_154 rfl (lv_at hl 5 rfl) ?_
                    refine va_iald hx hb hK hP 13 0 rfl rfl (vp_in_nI (show k < 32 by omega) (by decide)) dX4_right_155 ?_
                    rw [nI_clamp (show k < 2 ^ 31 by have := (show k < 32 by omega); omega)]
                    refine lv_topi (fun y86 ey86 => ?_)
                    obtain rfl : y86 = o2i (tp k) := ey86.trans (e17)
                    refine lv_goto (tgt := 165) hx hb dX4_right_156 (by decide) ?_
                    refine lv_istore (lv' := [(8, .int (o2i (tp k))), (7, .int (ptR ef (sc, ar) a x 0)), (6, .int (nI 0)), (2, .int (b2i (usR th (sc, ar) a x))), (5, .int (nI a)), (4, .int x), (3, .int (nI k)), (1, .int (nI S.length)), (0, .ref (AB 0))]) hx hb dX4_right_165 hl (by decide) rfl (fun ls hl => ?_)
                    refine lv_iload hx hb dX4_right_167 (lv_at hl 1 rfl) ?_
                    refine lv_if_eq (tgt := 177) hx hb dX4_right_169 (by decide) (fun c169_87 => ?_) (fun c169_87 => ?_)
                    · skip
                      have hpz0 := c169_87
                      refine lv_iconst (v := 1) hx hb dX4_right_177 (by decide) ?_
                      refine lv_goto (tgt := 182) hx hb dX4_right_178 (by decide) ?_
                      refine lv_istore_n (lv' := [(2, .int 1), (8, .int (o2i (tp k))), (7, .int (ptR ef (sc, ar) a x 0)), (6, .int (nI 0)), (5, .int (nI a)), (4, .int x), (3, .int (nI k)), (1, .int (nI S.length)), (0, .ref (AB 0))]) hx hb dX4_right_182 rfl hl (by decide) rfl (fun ls hl => ?_)
                      refine lv_iload hx hb dX4_right_183 (lv_at hl 2 rfl) ?_
                      refine lv_if_le (tgt := 211) hx hb dX4_right_185 (by decide) (fun c185_88 => ?_) (fun c185_88 => ?_)
                      · skip
                        obtain ⟨y89, ey89⟩ : ∃ y : Int32, y = (nI 0) + 1 := ⟨_, rfl⟩
                        refine lv_iinc (v := y89) (lv' := [(6, .int y89), (2, .int 1), (8, .int (o2i (tp k))), (7, .int (ptR ef (sc, ar) a x 0)), (5, .int (nI a)), (4, .int x), (3, .int (nI k)), (1, .int (nI S.length)), (0, .ref (AB 0))]) hx hb dX4_right_211 hl (k := 3) rfl (by rw [ey89]; rfl) (by decide) rfl (fun ls hl => ?_)
                        obtain rfl : y89 = nI (0 + 1) := ey89.trans (nI_1 0)
                        refine lv_goto (tgt := 118) hx hb dX4_right_214 (by decide) ?_
                        refine lv_iload hx hb dX4_right_118 (lv_at hl 0 rfl) ?_
                        refine lv_iconst (v := 2) hx hb dX4_right_120 (by decide) ?_
                        refine lv_icmp_ge (tgt := 217) hx hb dX4_right_121 (by decide) (fun c121_90 => ?_) (fun c121_90 => ?_)
                        · exact absurd c121_90 (by decide)
                        · skip
                          refine lv_iload_n hx hb dX4_right_124 rfl (lv_at hl 1 rfl) ?_
                          refine lv_if_eq (tgt := 217) hx hb dX4_right_125 (by decide) (fun c125_91 => ?_) (fun c125_91 => ?_)
                          · exact absurd c125_91 (by decide)
                          · skip
                            refine lv_iload hx hb dX4_right_128 (lv_at hl 4 rfl) ?_
                            refine lv_if_lt (tgt := 217) hx hb dX4_right_130 (by decide) (fun c130_92 => ?_) (fun c130_92 => ?_)
                            · exact absurd c130_92 (nI_ge0 (by omega))
                            · skip
                              refine lv_aload_n hx hb dX4_right_133 rfl (lv_at hl 8 rfl) ?_
                              refine lv_iload hx hb dX4_right_134 (lv_at hl 4 rfl) ?_
                              refine lv_iload hx hb dX4_right_136 (lv_at hl 5 rfl) ?_
                              refine lv_iload hx hb dX4_right_138 (lv_at hl 0 rfl) ?_
                              refine vp_callSi (W.runV (As := [.int (nI a), .int x, .int (nI (0 + 1))]) (rest := []) ⟨hx, hb, hml, hown, hts⟩ (m_part l dC dI AB cI cZ (va_up sc 0 0, va_up (va_up ar 26 wk) 27 wb) ef ha8 ((frz_sc (frz_up (frz_up frz.rf (by decide)) (by decide)) (by decide)).mok hM _ ha8).2.1 (hM _ ha8).2.2 x (nI (0 + 1))) (cwV 3 hts gX4_right_X4_part rfl rfl rfl (by decide +kernel) ⟨Nat.le_of_ble_eq_true rfl, Nat.le_of_ble_eq_true rfl⟩) ⟨bm_P, va_recv hK hP (ci := 4) (q0 := 0) rfl rfl, fun U hU hW => ⟨rfl, by rw [hU]; exact hP, va_K.moved hW.alike hK⟩⟩ rfl rfl hl.1 rfl (lv_room (Nat.le_of_ble_eq_true rfl)) dX4_right_140 ⟨Nat.zero_le _, Nat.zero_le _⟩) (fun r er => ?_)
                              obtain rfl : r = ptR ef (sc, ar) a x 1 := er.trans (congrFun (congrFun (congrFun ((frz_sc (frz_up (frz_up frz.rf (by decide)) (by decide)) (by decide)).pt ef) a) x) 1)
                              refine lv_istore (lv' := [(7, .int (ptR ef (sc, ar) a x 1)), (6, .int (nI (0 + 1))), (2, .int 1), (8, .int (o2i (tp k))), (5, .int (nI a)), (4, .int x), (3, .int (nI k)), (1, .int (nI S.length)), (0, .ref (AB 0))]) hx hb dX4_right_143 hl (by decide) rfl (fun ls hl => ?_)
                              refine lv_iload hx hb dX4_right_145 (lv_at hl 1 rfl) ?_
                              refine lv_if_ne (tgt := 159) hx hb dX4_right_147 (by decide) (fun c147_93 => ?_) (fun c147_93 => ?_)
                              · skip
                                refine lv_aload_n hx hb dX4_right_159 rfl (lv_at hl 8 rfl) ?_
                                refine va_get (D := (dC, dI)) (ci := 4) (v := .ref (AB 18)) (C := RX4) (T := TX4) (N := 33) hx hb hts hinX4 hown hK hP 0 rfl rfl 18 (by decide) (hts _ (List.mem_of_getElem? (i := 7) rfl)) (fun _ h9 => h9) rfl dX4_right_160 ?_
                                refine lv_iload_n hx hb dX4_right_163 rfl (lv_at hl 6 rfl) ?_
                                refine va_iald hx hb hK hP 14 0 rfl rfl (vp_in_nI (show k < 32 by omega) (by decide)) dX4_right_164 ?_
                                rw [nI_clamp (show k < 2 ^ 31 by have := (show k < 32 by omega); omega)]
                                refine lv_topi (fun y94 ey94 => ?_)
                                obtain rfl : y94 = o2i (tq k) := ey94.trans (e18)
                                refine lv_istore (lv' := [(8, .int (o2i (tq k))), (7, .int (ptR ef (sc, ar) a x 1)), (6, .int (nI (0 + 1))), (2, .int 1), (5, .int (nI a)), (4, .int x), (3, .int (nI k)), (1, .int (nI S.length)), (0, .ref (AB 0))]) hx hb dX4_right_165 hl (by decide) rfl (fun ls hl => ?_)
                                refine lv_iload hx hb dX4_right_167 (lv_at hl 1 rfl) ?_
                                refine lv_if_eq (tgt := 177) hx hb dX4_right_169 (by decide) (fun c169_95 => ?_) (fun c169_95 => ?_)
                                · skip
                                  have hpz1 := c169_95
                                  refine lv_iconst (v := 1) hx hb dX4_right_177 (by decide) ?_
                                  refine lv_goto (tgt := 182) hx hb dX4_right_178 (by decide) ?_
                                  refine lv_istore_n (lv' := [(2, .int 1), (8, .int (o2i (tq k))), (7, .int (ptR ef (sc, ar) a x 1)), (6, .int (nI (0 + 1))), (5, .int (nI a)), (4, .int x), (3, .int (nI k)), (1, .int (nI S.length)), (0, .ref (AB 0))]) hx hb dX4_right_182 rfl hl (by decide) rfl (fun ls hl => ?_)
                                  refine lv_iload hx hb dX4_right_183 (lv_at hl 2 rfl) ?_
                                  refine lv_if_le (tgt := 211) hx hb dX4_right_185 (by decide) (fun c185_96 => ?_) (fun c185_96 => ?_)
                                  · skip
                                    obtain ⟨y97, ey97⟩ : ∃ y : Int32, y = (nI (0 + 1)) + 1 := ⟨_, rfl⟩
                                    refine lv_iinc (v := y97) (lv' := [(6, .int y97), (2, .int 1), (8, .int (o2i (tq k))), (7, .int (ptR ef (sc, ar) a x 1)), (5, .int (nI a)), (4, .int x), (3, .int (nI k)), (1, .int (nI S.length)), (0, .ref (AB 0))]) hx hb dX4_right_211 hl (k := 3) rfl (by rw [ey97]; rfl) (by decide) rfl (fun ls hl => ?_)
                                    obtain rfl : y97 = nI ((0 + 1) + 1) := ey97.trans (nI_1 (0 + 1))
                                    refine lv_goto (tgt := 118) hx hb dX4_right_214 (by decide) ?_
                                    refine lv_iload hx hb dX4_right_118 (lv_at hl 0 rfl) ?_
                                    refine lv_iconst (v := 2) hx hb dX4_right_120 (by decide) ?_
                                    refine lv_icmp_ge (tgt := 217) hx hb dX4_right_121 (by decide) (fun c121_98 => ?_) (fun c121_98 => ?_)
                                    · skip
                                      refine lv_goto (tgt := 58) hx hb dX4_right_217 (by decide) ?_
                                      exact ih ls H locs ⟨S, true, wk, wb, hP, hD, hS, by rw [show 31 - (j + 1) = f by omega]; exact hN.pop true (by rw [fx_node hT hkc hx0 hta, hus, fc_0 hpz0, fc_0 hpz1]; rfl), lv_sub hl [8, 7, 1] rfl⟩ (by omega)
                                    · exact absurd (by decide) c121_98
                                  · exact absurd (by rw [hpz1]; decide) c185_96
                                · skip
                                  have hpn1 := c169_95
                                  refine lv_iload hx hb dX4_right_172 (lv_at hl 0 rfl) ?_
                                  refine lv_if_lt (tgt := 181) hx hb dX4_right_174 (by decide) (fun c174_99 => ?_) (fun c174_99 => ?_)
                                  · skip
                                    have hto1 : tq k = none := o2i_neg (N := c0) (by omega) (fun q h9 => (hT4.2 q h9).1) (Int32.not_le.mpr c174_99)
                                    refine lv_iconst (v := 0) hx hb dX4_right_181 (by decide) ?_
                                    refine lv_istore_n (lv' := [(2, .int 0), (8, .int (o2i (tq k))), (7, .int (ptR ef (sc, ar) a x 1)), (6, .int (nI (0 + 1))), (5, .int (nI a)), (4, .int x), (3, .int (nI k)), (1, .int (nI S.length)), (0, .ref (AB 0))]) hx hb dX4_right_182 rfl hl (by decide) rfl (fun ls hl => ?_)
                                    refine lv_iload hx hb dX4_right_183 (lv_at hl 2 rfl) ?_
                                    refine lv_if_le (tgt := 211) hx hb dX4_right_185 (by decide) (fun c185_100 => ?_) (fun c185_100 => ?_)
                                    · exact absurd c185_100 (Int32.not_le.mpr (pos16 (hp16 a ha8 x 1) hpn1))
                                    · skip
                                      refine lv_iload_n hx hb dX4_right_188 rfl (lv_at hl 0 rfl) ?_
                                      refine lv_if_eq (tgt := 211) hx hb dX4_right_189 (by decide) (fun c189_101 => ?_) (fun c189_101 => ?_)
                                      · skip
                                        obtain ⟨y102, ey102⟩ : ∃ y : Int32, y = (nI (0 + 1)) + 1 := ⟨_, rfl⟩
                                        refine lv_iinc (v := y102) (lv' := [(6, .int y102), (2, .int 0), (8, .int (o2i (tq k))), (7, .int (ptR ef (sc, ar) a x 1)), (5, .int (nI a)), (4, .int x), (3, .int (nI k)), (1, .int (nI S.length)), (0, .ref (AB 0))]) hx hb dX4_right_211 hl (k := 3) rfl (by rw [ey102]; rfl) (by decide) rfl (fun ls hl => ?_)
                                        obtain rfl : y102 = nI ((0 + 1) + 1) := ey102.trans (nI_1 (0 + 1))
                                        refine lv_goto (tgt := 118) hx hb dX4_right_214 (by decide) ?_
                                        refine lv_iload hx hb dX4_right_118 (lv_at hl 0 rfl) ?_
                                        refine lv_iconst (v := 2) hx hb dX4_right_120 (by decide) ?_
                                        refine lv_icmp_ge (tgt := 217) hx hb dX4_right_121 (by decide) (fun c121_103 => ?_) (fun c121_103 => ?_)
                                        · skip
                                          refine lv_goto (tgt := 58) hx hb dX4_right_217 (by decide) ?_
                                          exact ih ls H locs ⟨S, false, wk, wb, hP, hD, hS, by rw [show 31 - (j + 1) = f by omega]; exact hN.pop false (by rw [fx_node hT hkc hx0 hta, hus, fc_0 hpz0, fc_no hpn1 hto1]; rfl), lv_sub hl [8, 7, 1] rfl⟩ (by omega)
                                        · exact absurd (by decide) c121_103
                                      · exact absurd rfl c189_101
                                  · skip
                                    obtain ⟨j1, hto1⟩ := o2i_some (Int32.not_lt.mp c174_99)
                                    rw [hto1] at hl
                                    have hl : lv_has ls 9 [(8, .int (nI j1)), (7, .int (ptR ef (sc, ar) a x 1)), (6, .int (nI (0 + 1))), (2, .int 1), (5, .int (nI a)), (4, .int x), (3, .int (nI k)), (1, .int (nI S.length)), (0, .ref (AB 0))] := hl
                                    refine lv_iconst (v := 1) hx hb dX4_right_177 (by decide) ?_
                                    refine lv_goto (tgt := 182) hx hb dX4_right_178 (by decide) ?_
                                    refine lv_istore_n (lv' := [(2, .int 1), (8, .int (nI j1)), (7, .int (ptR ef (sc, ar) a x 1)), (6, .int (nI (0 + 1))), (5, .int (nI a)), (4, .int x), (3, .int (nI k)), (1, .int (nI S.length)), (0, .ref (AB 0))]) hx hb dX4_right_182 rfl hl (by decide) rfl (fun ls hl => ?_)
                                    refine lv_iload hx hb dX4_right_183 (lv_at hl 2 rfl) ?_
                                    refine lv_if_le (tgt := 211) hx hb dX4_right_185 (by decide) (fun c185_104 => ?_) (fun c185_104 => ?_)
                                    · exact absurd c185_104 (Int32.not_le.mpr (pos16 (hp16 a ha8 x 1) hpn1))
                                    · skip
                                      refine lv_iload_n hx hb dX4_right_188 rfl (lv_at hl 0 rfl) ?_
                                      refine lv_if_eq (tgt := 211) hx hb dX4_right_189 (by decide) (fun c189_105 => ?_) (fun c189_105 => ?_)
                                      · exact absurd c189_105 (by decide)
                                      · skip
                                        refine lv_aload_n hx hb dX4_right_192 rfl (lv_at hl 8 rfl) ?_
                                        refine va_get (D := (dC, dI)) (ci := 4) (v := .ref (AB 26)) (C := RX4) (T := TX4) (N := 33) hx hb hts hinX4 hown hK hP 0 rfl rfl 26 (by decide) (hts _ (List.mem_of_getElem? (i := 3) rfl)) (fun _ h9 => h9) rfl dX4_right_193 ?_
                                        refine lv_iload_n hx hb dX4_right_196 rfl (lv_at hl 7 rfl) ?_
                                        refine lv_iload hx hb dX4_right_197 (lv_at hl 1 rfl) ?_
                                        refine va_iast hx hb hK hP hD hS 22 0 rfl rfl (vp_in_nI (show S.length < 64 by omega) (by decide)) dX4_right_199 (fun H locs hP hD hS => ?_)
                                        rw [nI_clamp (show S.length < 2 ^ 31 by have := (show S.length < 64 by omega); omega)] at hP hD
                                        have hP : va_P (dC, dI) vwCl (mL AB cI cZ (va_up sc 0 0) (va_up (va_up ar 26 (upd wk S.length (nI j1))) 27 wb)) H := hP
                                        have hD : va_D V (mL AB cI cZ (va_up sc 0 0) (va_up (va_up ar 26 (upd wk S.length (nI j1))) 27 wb)) := hD
                                        refine lv_aload_n hx hb dX4_right_200 rfl (lv_at hl 8 rfl) ?_
                                        refine va_get (D := (dC, dI)) (ci := 4) (v := .ref (AB 27)) (C := RX4) (T := TX4) (N := 33) hx hb hts hinX4 hown hK hP 0 rfl rfl 27 (by decide) (hts _ (List.mem_of_getElem? (i := 4) rfl)) (fun _ h9 => h9) rfl dX4_right_201 ?_
                                        refine lv_iload_n hx hb dX4_right_204 rfl (lv_at hl 7 rfl) ?_
                                        refine lv_iload hx hb dX4_right_205 (lv_at hl 2 rfl) ?_
                                        refine va_iast hx hb hK hP hD hS 23 0 rfl rfl (vp_in_nI (show S.length < 64 by omega) (by decide)) dX4_right_207 (fun H locs hP hD hS => ?_)
                                        rw [nI_clamp (show S.length < 2 ^ 31 by have := (show S.length < 64 by omega); omega)] at hP hD
                                        have hP : va_P (dC, dI) vwCl (mL AB cI cZ (va_up sc 0 0) (va_up (va_up ar 26 (upd wk S.length (nI j1))) 27 (upd wb S.length (ptR ef (sc, ar) a x 1)))) H := hP
                                        have hD : va_D V (mL AB cI cZ (va_up sc 0 0) (va_up (va_up ar 26 (upd wk S.length (nI j1))) 27 (upd wb S.length (ptR ef (sc, ar) a x 1)))) := hD
                                        obtain ⟨y106, ey106⟩ : ∃ y : Int32, y = (nI S.length) + 1 := ⟨_, rfl⟩
                                        refine lv_iinc (v := y106) (lv' := [(1, .int y106), (2, .int 1), (8, .int (nI j1)), (7, .int (ptR ef (sc, ar) a x 1)), (6, .int (nI (0 + 1))), (5, .int (nI a)), (4, .int x), (3, .int (nI k)), (0, .ref (AB 0))]) hx hb dX4_right_208 hl (k := 7) rfl (by rw [ey106]; rfl) (by decide) rfl (fun ls hl => ?_)
                                        obtain rfl : y106 = nI (S.length + 1) := ey106.trans (nI_1 S.length)
                                        obtain ⟨y107, ey107⟩ : ∃ y : Int32, y = (nI (0 + 1)) + 1 := ⟨_, rfl⟩
                                        refine lv_iinc (v := y107) (lv' := [(6, .int y107), (1, .int (nI (S.length + 1))), (2, .int 1), (8, .int (nI j1)), (7, .int (ptR ef (sc, ar) a x 1)), (5, .int (nI a)), (4, .int x), (3, .int (nI k)), (0, .ref (AB 0))]) hx hb dX4_right_211 hl (k := 4) rfl (by rw [ey107]; rfl) (by decide) rfl (fun ls hl => ?_)
                                        obtain rfl : y107 = nI ((0 + 1) + 1) := ey107.trans (nI_1 (0 + 1))
                                        refine lv_goto (tgt := 118) hx hb dX4_right_214 (by decide) ?_
                                        refine lv_iload hx hb dX4_right_118 (lv_at hl 0 rfl) ?_
                                        refine lv_iconst (v := 2) hx hb dX4_right_120 (by decide) ?_
                                        refine lv_icmp_ge (tgt := 217) hx hb dX4_right_121 (by decide) (fun c121_108 => ?_) (fun c121_108 => ?_)
                                        · skip
                                          refine lv_goto (tgt := 58) hx hb dX4_right_217 (by decide) ?_
                                          exact ih ls H locs ⟨((j1, ptR ef (sc, ar) a x 1) :: S), true, (upd wk S.length (nI j1)), (upd wb S.length (ptR ef (sc, ar) a x 1)), hP, hD, hS, by rw [show 31 - (j + 1) = f by omega]; exact hN.one (by rw [fx_node hT hkc hx0 hta, hus, fc_0 hpz0, fc_at hpn1 hto1]; rfl) (hT4.2 j1 hto1) (hp16 a ha8 x 1) hpn1, lv_sub hl [8, 1, 2] rfl⟩ (by omega)
                                        · exact absurd (by decide) c121_108
                              · exact absurd c147_93 (by decide)
                      · exact absurd (by rw [hpz0]; decide) c185_88
                    · skip
                      have hpn0 := c169_87
                      refine lv_iload hx hb dX4_right_172 (lv_at hl 0 rfl) ?_
                      refine lv_if_lt (tgt := 181) hx hb dX4_right_174 (by decide) (fun c174_109 => ?_) (fun c174_109 => ?_)
                      · skip
                        have hto0 : tp k = none := o2i_neg (N := c0) (by omega) (fun q h9 => (hT4.1 q h9).1) (Int32.not_le.mpr c174_109)
                        refine lv_iconst (v := 0) hx hb dX4_right_181 (by decide) ?_
                        refine lv_istore_n (lv' := [(2, .int 0), (8, .int (o2i (tp k))), (7, .int (ptR ef (sc, ar) a x 0)), (6, .int (nI 0)), (5, .int (nI a)), (4, .int x), (3, .int (nI k)), (1, .int (nI S.length)), (0, .ref (AB 0))]) hx hb dX4_right_182 rfl hl (by decide) rfl (fun ls hl => ?_)
                        refine lv_iload hx hb dX4_right_183 (lv_at hl 2 rfl) ?_
                        refine lv_if_le (tgt := 211) hx hb dX4_right_185 (by decide) (fun c185_110 => ?_) (fun c185_110 => ?_)
                        · exact absurd c185_110 (Int32.not_le.mpr (pos16 (hp16 a ha8 x 0) hpn0))
                        · skip
                          refine lv_iload_n hx hb dX4_right_188 rfl (lv_at hl 0 rfl) ?_
                          refine lv_if_eq (tgt := 211) hx hb dX4_right_189 (by decide) (fun c189_111 => ?_) (fun c189_111 => ?_)
                          · skip
                            obtain ⟨y112, ey112⟩ : ∃ y : Int32, y = (nI 0) + 1 := ⟨_, rfl⟩
                            refine lv_iinc (v := y112) (lv' := [(6, .int y112), (2, .int 0), (8, .int (o2i (tp k))), (7, .int (ptR ef (sc, ar) a x 0)), (5, .int (nI a)), (4, .int x), (3, .int (nI k)), (1, .int (nI S.length)), (0, .ref (AB 0))]) hx hb dX4_right_211 hl (k := 3) rfl (by rw [ey112]; rfl) (by decide) rfl (fun ls hl => ?_)
                            obtain rfl : y112 = nI (0 + 1) := ey112.trans (nI_1 0)
                            refine lv_goto (tgt := 118) hx hb dX4_right_214 (by decide) ?_
                            refine lv_iload hx hb dX4_right_118 (lv_at hl 0 rfl) ?_
                            refine lv_iconst (v := 2) hx hb dX4_right_120 (by decide) ?_
                            refine lv_icmp_ge (tgt := 217) hx hb dX4_right_121 (by decide) (fun c121_113 => ?_) (fun c121_113 => ?_)
                            · exact absurd c121_113 (by decide)
                            · skip
                              refine lv_iload_n hx hb dX4_right_124 rfl (lv_at hl 1 rfl) ?_
                              refine lv_if_eq (tgt := 217) hx hb dX4_right_125 (by decide) (fun c125_114 => ?_) (fun c125_114 => ?_)
                              · skip
                                refine lv_goto (tgt := 58) hx hb dX4_right_217 (by decide) ?_
                                exact ih ls H locs ⟨S, false, wk, wb, hP, hD, hS, by rw [show 31 - (j + 1) = f by omega]; exact hN.pop false (by rw [fx_node hT hkc hx0 hta, hus, fc_no hpn0 hto0]; rfl), lv_sub hl [8, 7, 1] rfl⟩ (by omega)
                              · exact absurd rfl c125_114
                          · exact absurd rfl c189_111
                      · skip
                        obtain ⟨j0, hto0⟩ := o2i_some (Int32.not_lt.mp c174_109)
                        rw [hto0] at hl
                        have hl : lv_has ls 9 [(8, .int (nI j0)), (7, .int (ptR ef (sc, ar) a x 0)), (6, .int (nI 0)), (2, .int (b2i (usR th (sc, ar) a x))), (5, .int (nI a)), (4, .int x), (3, .int (nI k)), (1, .int (nI S.length)), (0, .ref (AB 0))] := hl
                        refine lv_iconst (v := 1) hx hb dX4_right_177 (by decide) ?_
                        refine lv_goto (tgt := 182) hx hb dX4_right_178 (by decide) ?_
                        refine lv_istore_n (lv' := [(2, .int 1), (8, .int (nI j0)), (7, .int (ptR ef (sc, ar) a x 0)), (6, .int (nI 0)), (5, .int (nI a)), (4, .int x), (3, .int (nI k)), (1, .int (nI S.length)), (0, .ref (AB 0))]) hx hb dX4_right_182 rfl hl (by decide) rfl (fun ls hl => ?_)
                        refine lv_iload hx hb dX4_right_183 (lv_at hl 2 rfl) ?_
                        refine lv_if_le (tgt := 211) hx hb dX4_right_185 (by decide) (fun c185_115 => ?_) (fun c185_115 => ?_)
                        · exact absurd c185_115 (Int32.not_le.mpr (pos16 (hp16 a ha8 x 0) hpn0))
                        · skip
                          refine lv_iload_n hx hb dX4_right_188 rfl (lv_at hl 0 rfl) ?_
                          refine lv_if_eq (tgt := 211) hx hb dX4_right_189 (by decide) (fun c189_116 => ?_) (fun c189_116 => ?_)
                          · exact absurd c189_116 (by decide)
                          · skip
                            refine lv_aload_n hx hb dX4_right_192 rfl (lv_at hl 8 rfl) ?_
                            refine va_get (D := (dC, dI)) (ci := 4) (v := .ref (AB 26)) (C := RX4) (T := TX4) (N := 33) hx hb hts hinX4 hown hK hP 0 rfl rfl 26 (by decide) (hts _ (List.mem_of_getElem? (i := 3) rfl)) (fun _ h9 => h9) rfl dX4_right_193 ?_
                            refine lv_iload_n hx hb dX4_right_196 rfl (lv_at hl 7 rfl) ?_
                            refine lv_iload hx hb dX4_right_197 (lv_at hl 1 rfl) ?_
                            refine va_iast hx hb hK hP hD hS 22 0 rfl rfl (vp_in_nI (show S.length < 64 by omega) (by decide)) dX4_right_199 (fun H locs hP hD hS => ?_)
                            rw [nI_clamp (show S.length < 2 ^ 31 by have := (show S.length < 64 by omega); omega)] at hP hD
                            have hP : va_P (dC, dI) vwCl (mL AB cI cZ (va_up sc 0 0) (va_up (va_up ar 26 (upd wk S.length (nI j0))) 27 wb)) H := hP
                            have hD : va_D V (mL AB cI cZ (va_up sc 0 0) (va_up (va_up ar 26 (upd wk S.length (nI j0))) 27 wb)) := hD
                            refine lv_aload_n hx hb dX4_right_200 rfl (lv_at hl 8 rfl) ?_
                            refine va_get (D := (dC, dI)) (ci := 4) (v := .ref (AB 27)) (C := RX4) (T := TX4) (N := 33) hx hb hts hinX4 hown hK hP 0 rfl rfl 27 (by decide) (hts _ (List.mem_of_getElem? (i := 4) rfl)) (fun _ h9 => h9) rfl dX4_right_201 ?_
                            refine lv_iload_n hx hb dX4_right_204 rfl (lv_at hl 7 rfl) ?_
                            refine lv_iload hx hb dX4_right_205 (lv_at hl 2 rfl) ?_
                            refine va_iast hx hb hK hP hD hS 23 0 rfl rfl (vp_in_nI (show S.length < 64 by omega) (by decide)) dX4_right_207 (fun H locs hP hD hS => ?_)
                            rw [nI_clamp (show S.length < 2 ^ 31 by have := (show S.length < 64 by omega); omega)] at hP hD
                            have hP : va_P (dC, dI) vwCl (mL AB cI cZ (va_up sc 0 0) (va_up (va_up ar 26 (upd wk S.length (nI j0))) 27 (upd wb S.length (ptR ef (sc, ar) a x 0)))) H := hP
                            have hD : va_D V (mL AB cI cZ (va_up sc 0 0) (va_up (va_up ar 26 (upd wk S.length (nI j0))) 27 (upd wb S.length (ptR ef (sc, ar) a x 0)))) := hD
                            obtain ⟨y117, ey117⟩ : ∃ y : Int32, y = (nI S.length) + 1 := ⟨_, rfl⟩
                            refine lv_iinc (v := y117) (lv' := [(1, .int y117), (2, .int 1), (8, .int (nI j0)), (7, .int (ptR ef (sc, ar) a x 0)), (6, .int (nI 0)), (5, .int (nI a)), (4, .int x), (3, .int (nI k)), (0, .ref (AB 0))]) hx hb dX4_right_208 hl (k := 7) rfl (by rw [ey117]; rfl) (by decide) rfl (fun ls hl => ?_)
                            obtain rfl : y117 = nI (S.length + 1) := ey117.trans (nI_1 S.length)
                            obtain ⟨y118, ey118⟩ : ∃ y : Int32, y = (nI 0) + 1 := ⟨_, rfl⟩
                            refine lv_iinc (v := y118) (lv' := [(6, .int y118), (1, .int (nI (S.length + 1))), (2, .int 1), (8, .int (nI j0)), (7, .int (ptR ef (sc, ar) a x 0)), (5, .int (nI a)), (4, .int x), (3, .int (nI k)), (0, .ref (AB 0))]) hx hb dX4_right_211 hl (k := 4) rfl (by rw [ey118]; rfl) (by decide) rfl (fun ls hl => ?_)
                            obtain rfl : y118 = nI (0 + 1) := ey118.trans (nI_1 0)
                            refine lv_goto (tgt := 118) hx hb dX4_right_214 (by decide) ?_
                            refine lv_iload hx hb dX4_right_118 (lv_at hl 0 rfl) ?_
                            refine lv_iconst (v := 2) hx hb dX4_right_120 (by decide) ?_
                            refine lv_icmp_ge (tgt := 217) hx hb dX4_right_121 (by decide) (fun c121_119 => ?_) (fun c121_119 => ?_)
                            · exact absurd c121_119 (by decide)
                            · skip
                              refine lv_iload_n hx hb dX4_right_124 rfl (lv_at hl 2 rfl) ?_
                              refine lv_if_eq (tgt := 217) hx hb dX4_right_125 (by decide) (fun c125_120 => ?_) (fun c125_120 => ?_)
                              · exact absurd c125_120 (by decide)
                              · skip
                                refine lv_iload hx hb dX4_right_128 (lv_at hl 5 rfl) ?_
                                refine lv_if_lt (tgt := 217) hx hb dX4_right_130 (by decide) (fun c130_121 => ?_) (fun c130_121 => ?_)
                                · exact absurd c130_121 (nI_ge0 (by omega))
                                · skip
                                  refine lv_aload_n hx hb dX4_right_133 rfl (lv_at hl 8 rfl) ?_
                                  refine lv_iload hx hb dX4_right_134 (lv_at hl 5 rfl) ?_
                                  refine lv_iload hx hb dX4_right_136 (lv_at hl 6 rfl) ?_
                                  refine lv_iload hx hb dX4_right_138 (lv_at hl 0 rfl) ?_
                                  refine vp_callSi (W.runV (As := [.int (nI a), .int x, .int (nI (0 + 1))]) (rest := []) ⟨hx, hb, hml, hown, hts⟩ (m_part l dC dI AB cI cZ (va_up sc 0 0, va_up (va_up ar 26 (upd wk S.length (nI j0))) 27 (upd wb S.length (ptR ef (sc, ar) a x 0))) ef ha8 ((frz_sc (frz_up (frz_up frz.rf (by decide)) (by decide)) (by decide)).mok hM _ ha8).2.1 (hM _ ha8).2.2 x (nI (0 + 1))) (cwV 3 hts gX4_right_X4_part rfl rfl rfl (by decide +kernel) ⟨Nat.le_of_ble_eq_true rfl, Nat.le_of_ble_eq_true rfl⟩) ⟨bm_P, va_recv hK hP (ci := 4) (q0 := 0) rfl rfl, fun U hU hW => ⟨rfl, by rw [hU]; exact hP, va_K.moved hW.alike hK⟩⟩ rfl rfl hl.1 rfl (lv_room (Nat.le_of_ble_eq_true rfl)) dX4_right_140 ⟨Nat.zero_le _, Nat.zero_le _⟩) (fun r er => ?_)
                                  obtain rfl : r = ptR ef (sc, ar) a x 1 := er.trans (congrFun (congrFun (congrFun ((frz_sc (frz_up (frz_up frz.rf (by decide)) (by decide)) (by decide)).pt ef) a) x) 1)
                                  refine lv_istore (lv' := [(7, .int (ptR ef (sc, ar) a x 1)), (6, .int (nI (0 + 1))), (1, .int (nI (S.length + 1))), (2, .int 1), (8, .int (nI j0)), (5, .int (nI a)), (4, .int x), (3, .int (nI k)), (0, .ref (AB 0))]) hx hb dX4_right_143 hl (by decide) rfl (fun ls hl => ?_)
                                  refine lv_iload hx hb dX4_right_145 (lv_at hl 1 rfl) ?_
                                  refine lv_if_ne (tgt := 159) hx hb dX4_right_147 (by decide) (fun c147_122 => ?_) (fun c147_122 => ?_)
                                  · skip
                                    refine lv_aload_n hx hb dX4_right_159 rfl (lv_at hl 8 rfl) ?_
                                    refine va_get (D := (dC, dI)) (ci := 4) (v := .ref (AB 18)) (C := RX4) (T := TX4) (N := 33) hx hb hts hinX4 hown hK hP 0 rfl rfl 18 (by decide) (hts _ (List.mem_of_getElem? (i := 7) rfl)) (fun _ h9 => h9) rfl dX4_right_160 ?_
                                    refine lv_iload_n hx hb dX4_right_163 rfl (lv_at hl 7 rfl) ?_
                                    refine va_iald hx hb hK hP 14 0 rfl rfl (vp_in_nI (show k < 32 by omega) (by decide)) dX4_right_164 ?_
                                    rw [nI_clamp (show k < 2 ^ 31 by have := (show k < 32 by omega); omega)]
                                    refine lv_topi (fun y123 ey123 => ?_)
                                    obtain rfl : y123 = o2i (tq k) := ey123.trans (e18)
                                    refine lv_istore (lv' := [(8, .int (o2i (tq k))), (7, .int (ptR ef (sc, ar) a x 1)), (6, .int (nI (0 + 1))), (1, .int (nI (S.length + 1))), (2, .int 1), (5, .int (nI a)), (4, .int x), (3, .int (nI k)), (0, .ref (AB 0))]) hx hb dX4_right_165 hl (by decide) rfl (fun ls hl => ?_)
                                    refine lv_iload hx hb dX4_right_167 (lv_at hl 1 rfl) ?_
                                    refine lv_if_eq (tgt := 177) hx hb dX4_right_169 (by decide) (fun c169_124 => ?_) (fun c169_124 => ?_)
                                    · skip
                                      have hpz1 := c169_124
                                      refine lv_iconst (v := 1) hx hb dX4_right_177 (by decide) ?_
                                      refine lv_goto (tgt := 182) hx hb dX4_right_178 (by decide) ?_
                                      refine lv_istore_n (lv' := [(2, .int 1), (8, .int (o2i (tq k))), (7, .int (ptR ef (sc, ar) a x 1)), (6, .int (nI (0 + 1))), (1, .int (nI (S.length + 1))), (5, .int (nI a)), (4, .int x), (3, .int (nI k)), (0, .ref (AB 0))]) hx hb dX4_right_182 rfl hl (by decide) rfl (fun ls hl => ?_)
                                      refine lv_iload hx hb dX4_right_183 (lv_at hl 2 rfl) ?_
                                      refine lv_if_le (tgt := 211) hx hb dX4_right_185 (by decide) (fun c185_125 => ?_) (fun c185_125 => ?_)
                                      · skip
                                        obtain ⟨y126, ey126⟩ : ∃ y : Int32, y = (nI (0 + 1)) + 1 := ⟨_, rfl⟩
                                        refine lv_iinc (v := y126) (lv' := [(6, .int y126), (2, .int 1), (8, .int (o2i (tq k))), (7, .int (ptR ef (sc, ar) a x 1)), (1, .int (nI (S.length + 1))), (5, .int (nI a)), (4, .int x), (3, .int (nI k)), (0, .ref (AB 0))]) hx hb dX4_right_211 hl (k := 3) rfl (by rw [ey126]; rfl) (by decide) rfl (fun ls hl => ?_)
                                        obtain rfl : y126 = nI ((0 + 1) + 1) := ey126.trans (nI_1 (0 + 1))
                                        refine lv_goto (tgt := 118) hx hb dX4_right_214 (by decide) ?_
                                        refine lv_iload hx hb dX4_right_118 (lv_at hl 0 rfl) ?_
                                        refine lv_iconst (v := 2) hx hb dX4_right_120 (by decide) ?_
                                        refine lv_icmp_ge (tgt := 217) hx hb dX4_right_121 (by decide) (fun c121_127 => ?_) (fun c121_127 => ?_)
                                        · skip
                                          refine lv_goto (tgt := 58) hx hb dX4_right_217 (by decide) ?_
                                          exact ih ls H locs ⟨((j0, ptR ef (sc, ar) a x 0) :: S), true, (upd wk S.length (nI j0)), (upd wb S.length (ptR ef (sc, ar) a x 0)), hP, hD, hS, by rw [show 31 - (j + 1) = f by omega]; exact hN.one (by rw [fx_node hT hkc hx0 hta, hus, fc_at hpn0 hto0, fc_0 hpz1]; cases fxO (usR th (sc, ar)) (ptR ef (sc, ar)) (reR (sc, ar)) ta tp tq ht j0 (ptR ef (sc, ar) a x 0) <;> rfl) (hT4.1 j0 hto0) (hp16 a ha8 x 0) hpn0, lv_sub hl [8, 4, 1] rfl⟩ (by omega)
                                        · exact absurd (by decide) c121_127
                                      · exact absurd (by rw [hpz1]; decide) c185_125
                                    · skip
                                      have hpn1 := c169_124
                                      refine lv_iload hx hb dX4_right_172 (lv_at hl 0 rfl) ?_
                                      refine lv_if_lt (tgt := 181) hx hb dX4_right_174 (by decide) (fun c174_128 => ?_) (fun c174_128 => ?_)
                                      · skip
                                        have hto1 : tq k = none := o2i_neg (N := c0) (by omega) (fun q h9 => (hT4.2 q h9).1) (Int32.not_le.mpr c174_128)
                                        refine lv_iconst (v := 0) hx hb dX4_right_181 (by decide) ?_
                                        refine lv_istore_n (lv' := [(2, .int 0), (8, .int (o2i (tq k))), (7, .int (ptR ef (sc, ar) a x 1)), (6, .int (nI (0 + 1))), (1, .int (nI (S.length + 1))), (5, .int (nI a)), (4, .int x), (3, .int (nI k)), (0, .ref (AB 0))]) hx hb dX4_right_182 rfl hl (by decide) rfl (fun ls hl => ?_)
                                        refine lv_iload hx hb dX4_right_183 (lv_at hl 2 rfl) ?_
                                        refine lv_if_le (tgt := 211) hx hb dX4_right_185 (by decide) (fun c185_129 => ?_) (fun c185_129 => ?_)
                                        · exact absurd c185_129 (Int32.not_le.mpr (pos16 (hp16 a ha8 x 1) hpn1))
                                        · skip
                                          refine lv_iload_n hx hb dX4_right_188 rfl (lv_at hl 0 rfl) ?_
                                          refine lv_if_eq (tgt := 211) hx hb dX4_right_189 (by decide) (fun c189_130 => ?_) (fun c189_130 => ?_)
                                          · skip
                                            obtain ⟨y131, ey131⟩ : ∃ y : Int32, y = (nI (0 + 1)) + 1 := ⟨_, rfl⟩
                                            refine lv_iinc (v := y131) (lv' := [(6, .int y131), (2, .int 0), (8, .int (o2i (tq k))), (7, .int (ptR ef (sc, ar) a x 1)), (1, .int (nI (S.length + 1))), (5, .int (nI a)), (4, .int x), (3, .int (nI k)), (0, .ref (AB 0))]) hx hb dX4_right_211 hl (k := 3) rfl (by rw [ey131]; rfl) (by decide) rfl (fun ls hl => ?_)
                                            obtain rfl : y131 = nI ((0 + 1) + 1) := ey131.trans (nI_1 (0 + 1))
                                            refine lv_goto (tgt := 118) hx hb dX4_right_214 (by decide) ?_
                                            refine lv_iload hx hb dX4_right_118 (lv_at hl 0 rfl) ?_
                                            refine lv_iconst (v := 2) hx hb dX4_right_120 (by decide) ?_
                                            refine lv_icmp_ge (tgt := 217) hx hb dX4_right_121 (by decide) (fun c121_132 => ?_) (fun c121_132 => ?_)
                                            · skip
                                              refine lv_goto (tgt := 58) hx hb dX4_right_217 (by decide) ?_
                                              exact ih ls H locs ⟨((j0, ptR ef (sc, ar) a x 0) :: S), false, (upd wk S.length (nI j0)), (upd wb S.length (ptR ef (sc, ar) a x 0)), hP, hD, hS, by rw [show 31 - (j + 1) = f by omega]; exact hN.bad (by rw [fx_node hT hkc hx0 hta, hus, fc_at hpn0 hto0, fc_no hpn1 hto1]; cases fxO (usR th (sc, ar)) (ptR ef (sc, ar)) (reR (sc, ar)) ta tp tq ht j0 (ptR ef (sc, ar) a x 0) <;> rfl) (hT4.1 j0 hto0) (hp16 a ha8 x 0) hpn0, lv_sub hl [8, 4, 1] rfl⟩ (by omega)
                                            · exact absurd (by decide) c121_132
                                          · exact absurd rfl c189_130
                                      · skip
                                        obtain ⟨j1, hto1⟩ := o2i_some (Int32.not_lt.mp c174_128)
                                        rw [hto1] at hl
                                        have hl : lv_has ls 9 [(8, .int (nI j1)), (7, .int (ptR ef (sc, ar) a x 1)), (6, .int (nI (0 + 1))), (1, .int (nI (S.length + 1))), (2, .int 1), (5, .int (nI a)), (4, .int x), (3, .int (nI k)), (0, .ref (AB 0))] := hl
                                        refine lv_iconst (v := 1) hx hb dX4_right_177 (by decide) ?_
                                        refine lv_goto (tgt := 182) hx hb dX4_right_178 (by decide) ?_
                                        refine lv_istore_n (lv' := [(2, .int 1), (8, .int (nI j1)), (7, .int (ptR ef (sc, ar) a x 1)), (6, .int (nI (0 + 1))), (1, .int (nI (S.length + 1))), (5, .int (nI a)), (4, .int x), (3, .int (nI k)), (0, .ref (AB 0))]) hx hb dX4_right_182 rfl hl (by decide) rfl (fun ls hl => ?_)
                                        refine lv_iload hx hb dX4_right_183 (lv_at hl 2 rfl) ?_
                                        refine lv_if_le (tgt := 211) hx hb dX4_right_185 (by decide) (fun c185_133 => ?_) (fun c185_133 => ?_)
                                        · exact absurd c185_133 (Int32.not_le.mpr (pos16 (hp16 a ha8 x 1) hpn1))
                                        · skip
                                          refine lv_iload_n hx hb dX4_right_188 rfl (lv_at hl 0 rfl) ?_
                                          refine lv_if_eq (tgt := 211) hx hb dX4_right_189 (by decide) (fun c189_134 => ?_) (fun c189_134 => ?_)
                                          · exact absurd c189_134 (by decide)
                                          · skip
                                            refine lv_aload_n hx hb dX4_right_192 rfl (lv_at hl 8 rfl) ?_
                                            refine va_get (D := (dC, dI)) (ci := 4) (v := .ref (AB 26)) (C := RX4) (T := TX4) (N := 33) hx hb hts hinX4 hown hK hP 0 rfl rfl 26 (by decide) (hts _ (List.mem_of_getElem? (i := 3) rfl)) (fun _ h9 => h9) rfl dX4_right_193 ?_
                                            refine lv_iload_n hx hb dX4_right_196 rfl (lv_at hl 4 rfl) ?_
                                            refine lv_iload hx hb dX4_right_197 (lv_at hl 1 rfl) ?_
                                            refine va_iast hx hb hK hP hD hS 22 0 rfl rfl (vp_in_nI (show (S.length + 1) < 64 by omega) (by decide)) dX4_right_199 (fun H locs hP hD hS => ?_)
                                            rw [nI_clamp (show (S.length + 1) < 2 ^ 31 by have := (show (S.length + 1) < 64 by omega); omega)] at hP hD
                                            have hP : va_P (dC, dI) vwCl (mL AB cI cZ (va_up sc 0 0) (va_up (va_up ar 26 (upd (upd wk S.length (nI j0)) (S.length + 1) (nI j1))) 27 (upd wb S.length (ptR ef (sc, ar) a x 0)))) H := hP
                                            have hD : va_D V (mL AB cI cZ (va_up sc 0 0) (va_up (va_up ar 26 (upd (upd wk S.length (nI j0)) (S.length + 1) (nI j1))) 27 (upd wb S.length (ptR ef (sc, ar) a x 0)))) := hD
                                            refine lv_aload_n hx hb dX4_right_200 rfl (lv_at hl 8 rfl) ?_
                                            refine va_get (D := (dC, dI)) (ci := 4) (v := .ref (AB 27)) (C := RX4) (T := TX4) (N := 33) hx hb hts hinX4 hown hK hP 0 rfl rfl 27 (by decide) (hts _ (List.mem_of_getElem? (i := 4) rfl)) (fun _ h9 => h9) rfl dX4_right_201 ?_
                                            refine lv_iload_n hx hb dX4_right_204 rfl (lv_at hl 4 rfl) ?_
                                            refine lv_iload hx hb dX4_right_205 (lv_at hl 2 rfl) ?_
                                            refine va_iast hx hb hK hP hD hS 23 0 rfl rfl (vp_in_nI (show (S.length + 1) < 64 by omega) (by decide)) dX4_right_207 (fun H locs hP hD hS => ?_)
                                            rw [nI_clamp (show (S.length + 1) < 2 ^ 31 by have := (show (S.length + 1) < 64 by omega); omega)] at hP hD
                                            have hP : va_P (dC, dI) vwCl (mL AB cI cZ (va_up sc 0 0) (va_up (va_up ar 26 (upd (upd wk S.length (nI j0)) (S.length + 1) (nI j1))) 27 (upd (upd wb S.length (ptR ef (sc, ar) a x 0)) (S.length + 1) (ptR ef (sc, ar) a x 1)))) H := hP
                                            have hD : va_D V (mL AB cI cZ (va_up sc 0 0) (va_up (va_up ar 26 (upd (upd wk S.length (nI j0)) (S.length + 1) (nI j1))) 27 (upd (upd wb S.length (ptR ef (sc, ar) a x 0)) (S.length + 1) (ptR ef (sc, ar) a x 1)))) := hD
                                            obtain ⟨y135, ey135⟩ : ∃ y : Int32, y = (nI (S.length + 1)) + 1 := ⟨_, rfl⟩
                                            refine lv_iinc (v := y135) (lv' := [(1, .int y135), (2, .int 1), (8, .int (nI j1)), (7, .int (ptR ef (sc, ar) a x 1)), (6, .int (nI (0 + 1))), (5, .int (nI a)), (4, .int x), (3, .int (nI k)), (0, .ref (AB 0))]) hx hb dX4_right_208 hl (k := 4) rfl (by rw [ey135]; rfl) (by decide) rfl (fun ls hl => ?_)
                                            obtain rfl : y135 = nI ((S.length + 1) + 1) := ey135.trans (nI_1 (S.length + 1))
                                            obtain ⟨y136, ey136⟩ : ∃ y : Int32, y = (nI (0 + 1)) + 1 := ⟨_, rfl⟩
                                            refine lv_iinc (v := y136) (lv' := [(6, .int y136), (1, .int (nI ((S.length + 1) + 1))), (2, .int 1), (8, .int (nI j1)), (7, .int (ptR ef (sc, ar) a x 1)), (5, .int (nI a)), (4, .int x), (3, .int (nI k)), (0, .ref (AB 0))]) hx hb dX4_right_211 hl (k := 4) rfl (by rw [ey136]; rfl) (by decide) rfl (fun ls hl => ?_)
                                            obtain rfl : y136 = nI ((0 + 1) + 1) := ey136.trans (nI_1 (0 + 1))
                                            refine lv_goto (tgt := 118) hx hb dX4_right_214 (by decide) ?_
                                            refine lv_iload hx hb dX4_right_118 (lv_at hl 0 rfl) ?_
                                            refine lv_iconst (v := 2) hx hb dX4_right_120 (by decide) ?_
                                            refine lv_icmp_ge (tgt := 217) hx hb dX4_right_121 (by decide) (fun c121_137 => ?_) (fun c121_137 => ?_)
                                            · skip
                                              refine lv_goto (tgt := 58) hx hb dX4_right_217 (by decide) ?_
                                              exact ih ls H locs ⟨((j1, ptR ef (sc, ar) a x 1) :: (j0, ptR ef (sc, ar) a x 0) :: S), true, (upd (upd wk S.length (nI j0)) (S.length + 1) (nI j1)), (upd (upd wb S.length (ptR ef (sc, ar) a x 0)) (S.length + 1) (ptR ef (sc, ar) a x 1)), hP, hD, hS, by rw [show 31 - (j + 1) = f by omega]; exact hN.two (by rw [fx_node hT hkc hx0 hta, hus, fc_at hpn0 hto0, fc_at hpn1 hto1]; rfl) (hT4.1 j0 hto0) (hT4.2 j1 hto1) (hp16 a ha8 x 0) hpn0 (hp16 a ha8 x 1) hpn1, lv_sub hl [8, 1, 2] rfl⟩ (by omega)
                                            · exact absurd (by decide) c121_137
                                  · exact absurd c147_122 (by decide)
          · skip
            have hta : ta k = none := o2i_neg (N := 8) (by decide) (fun a h9 => ((hT.2 k hkc).2.1 a h9).1) c94_80
            refine lv_aload_n hx hb dX4_right_97 rfl (lv_at hl 4 rfl) ?_
            refine lv_iload hx hb dX4_right_98 (lv_at hl 1 rfl) ?_
            refine vp_callSi (W.runV (As := [.int x]) (rest := []) ⟨hx, hb, hml, hown, hts⟩ (m_reached l dC dI AB cI cZ (va_up sc 0 0, va_up (va_up ar 26 wk) 27 wb) x) (cwV 1 hts gX4_right_X4_reached rfl rfl rfl (by decide +kernel) ⟨Nat.le_of_ble_eq_true rfl, Nat.le_of_ble_eq_true rfl⟩) ⟨bm_P, va_recv hK hP (ci := 4) (q0 := 0) rfl rfl, fun U hU hW => ⟨rfl, by rw [hU]; exact hP, va_K.moved hW.alike hK⟩⟩ rfl rfl hl.1 rfl (lv_room (Nat.le_of_ble_eq_true rfl)) dX4_right_100 ⟨Nat.zero_le _, Nat.zero_le _⟩) (fun r er => ?_)
            obtain rfl : r = b2i (reR (sc, ar) x) := er.trans (by rw [(frz_sc (frz_up (frz_up frz.rf (by decide)) (by decide)) (by decide)).re])
            refine lv_goto (tgt := 114) hx hb dX4_right_103 (by decide) ?_
            refine lv_istore_n (lv' := [(2, .int (b2i (reR (sc, ar) x))), (5, .int (o2i (ta k))), (4, .int x), (3, .int (nI k)), (1, .int (nI S.length)), (0, .ref (AB 0))]) hx hb dX4_right_114 rfl hl (by decide) rfl (fun ls hl => ?_)
            refine lv_iconst (v := 0) hx hb dX4_right_115 (by decide) ?_
            refine lv_topi (fun y138 ey138 => ?_)
            obtain rfl : y138 = nI 0 := ey138.trans (rfl)
            refine lv_istore (lv' := [(6, .int (nI 0)), (2, .int (b2i (reR (sc, ar) x))), (5, .int (o2i (ta k))), (4, .int x), (3, .int (nI k)), (1, .int (nI S.length)), (0, .ref (AB 0))]) hx hb dX4_right_116 hl (by decide) rfl (fun ls hl => ?_)
            refine lv_iload hx hb dX4_right_118 (lv_at hl 0 rfl) ?_
            refine lv_iconst (v := 2) hx hb dX4_right_120 (by decide) ?_
            refine lv_icmp_ge (tgt := 217) hx hb dX4_right_121 (by decide) (fun c121_139 => ?_) (fun c121_139 => ?_)
            · exact absurd c121_139 (by decide)
            · skip
              refine lv_iload_n hx hb dX4_right_124 rfl (lv_at hl 1 rfl) ?_
              refine lv_if_eq (tgt := 217) hx hb dX4_right_125 (by decide) (fun c125_140 => ?_) (fun c125_140 => ?_)
              · skip
                refine lv_goto (tgt := 58) hx hb dX4_right_217 (by decide) ?_
                exact ih ls H locs ⟨S, _, wk, wb, hP, hD, hS, by rw [show 31 - (j + 1) = f by omega]; exact hN.pop _ (fx_leaf hx0 hta), lv_sub hl [6, 5, 1] rfl⟩ (by omega)
              · skip
                refine lv_iload hx hb dX4_right_128 (lv_at hl 2 rfl) ?_
                refine lv_if_lt (tgt := 217) hx hb dX4_right_130 (by decide) (fun c130_141 => ?_) (fun c130_141 => ?_)
                · skip
                  refine lv_goto (tgt := 58) hx hb dX4_right_217 (by decide) ?_
                  exact ih ls H locs ⟨S, _, wk, wb, hP, hD, hS, by rw [show 31 - (j + 1) = f by omega]; exact hN.pop _ (fx_leaf hx0 hta), lv_sub hl [6, 5, 1] rfl⟩ (by omega)
                · exact absurd (by rw [hta]; decide) c130_141
  · exact absurd c9_0 h1
set_option maxHeartbeats 4000000 in
set_option maxRecDepth 100000 in
/-- right 1 -/
theorem m_right1 (l : Launch) (dC : Nat → ClassId) (dI : Nat → Nat → Nat) (AB : Nat → Nat) (cI cZ : ClassId) (τ : MS) (sz : Nat) (h : τ.1 15 = 0) : Met l yX4_right wsX4_right ({ frames := 12, cells := 0, slots := 0, locals := 600 }) (va_Pc [.ref (AB 0)] (mF dC dI AB cI cZ sz τ)) (va_Qi (fun (r : Int32) (τ2 : MS) => r = 0 ∧ τ2 = (va_up τ.1 0 1, τ.2)) (mB dC dI AB cI cZ (va_A (mW AB cI cZ τ) sz)) (va_A (mW AB cI cZ τ) sz)) 0 0 (va_A (mW AB cI cZ τ) sz) := by
  obtain ⟨sc, ar⟩ := τ
  refine Met.ofW (cc := cX4_right) (maxL := 9) (ret := (some .boolean)) (by decide) rfl ?_
  intro p e s m args below meth c s₁ B hml hv
  obtain ⟨rfl, hsz, hP, hK, hD0⟩ := hv
  have hx := B.exec
  have hb := B.bytes
  have hr := B.returns
  have hts := atoms_spec (ws := wsX4_right) B.pre
  have hown : s.vm.findClass RX4 = some m.cls := findClass_of_methodNamed B.named
  have hlocks := B.notSynchronized
  have hinX4 : ∀ w ∈ wsX40, w ∈ wsX4_right := fun _ h => List.mem_cons_of_mem _ (List.mem_append_right _ h)
  subst hsz
  have hD := hD0.self (sz := s.heap.size)
  generalize hAe : va_A (mW AB cI cZ _) s.heap.size = V at hD ⊢
  have hA : ∀ q : Nat, s.heap.size ≤ q → V q := fun q h => by rw [← hAe]; exact Or.inr h
  have hS : va_S V s.heap s.heap [] := va_S.rf
  have hl := lv_entry ([.ref (AB 0)]) (n := 9) (Nat.le_of_ble_eq_true rfl)
  rw [lg_entry_eq]
  generalize (lg_sl ([.ref (AB 0)]) ++ List.replicate (9 - (lg_sl ([.ref (AB 0)])).length) Slot.unset).toArray = ls at hl ⊢
  have hl : lv_has ls 9 [(0, .ref (AB 0))] := hl
  have hP : va_P (dC, dI) vwCl (mL AB cI cZ sc ar) s.heap := hP
  have hD : va_D V (mL AB cI cZ sc ar) := hD
  refine lv_aload_n hx hb dX4_right_0 rfl (lv_at hl 0 rfl) ?_
  refine lv_iconst (v := 0) hx hb dX4_right_1 (by decide) ?_
  refine va_put (D := (dC, dI)) (ci := 4) (v := .int 0) (ty := .int) (C := RX4) (T := TX4) (N := 33) hx hb hts hinX4 tyX4 tyX4_ok nmX4 hown hK hP hD hS 0 rfl rfl 0 (by decide) (hts _ (List.mem_of_getElem? (i := 1) rfl)) (fun _ h9 => h9) rfl (by decide +kernel) rfl rfl (Nat.le_of_ble_eq_true rfl) dX4_right_2 (fun H locs hP hD hS => ?_)
  have hP : va_P (dC, dI) vwCl (mL AB cI cZ (va_up sc 0 0) ar) H := hP
  have hD : va_D V (mL AB cI cZ (va_up sc 0 0) ar) := hD
  refine lv_aload_n hx hb dX4_right_5 rfl (lv_at hl 0 rfl) ?_
  refine va_get (D := (dC, dI)) (ci := 4) (v := .int (sc 15)) (C := RX4) (T := TX4) (N := 33) hx hb hts hinX4 hown hK hP 0 rfl rfl 15 (by decide) (hts _ (List.mem_of_getElem? (i := 2) rfl)) (fun _ h9 => h9) rfl dX4_right_6 ?_
  refine lv_if_ne (tgt := 26) hx hb dX4_right_9 (by decide) (fun c9_0 => ?_) (fun c9_0 => ?_)
  · exact absurd h c9_0
  · skip
    refine lv_aload_n hx hb dX4_right_12 rfl (lv_at hl 0 rfl) ?_
    refine lv_iconst (v := 1) hx hb dX4_right_13 (by decide) ?_
    have hFc := m_free (τ := (va_up sc 0 0, ar)) hD hS hA
    refine va_calli (va_runV (As := [.int 1]) (rest := []) ⟨hx, hb, hml, hown, hts⟩ (m_fail l dC dI AB cI cZ (va_up sc 0 0, ar) H.size 1) (cwV 1 hts gX4_right_X4_fail rfl rfl rfl (by decide +kernel) ⟨Nat.le_of_ble_eq_true rfl, Nat.le_of_ble_eq_true rfl⟩) ⟨bm_F, va_recv hK hP (ci := 4) (q0 := 0) rfl rfl, fun U hU hW => ⟨rfl, by rw [hU], by rw [hU]; exact hP, va_K.moved hW.alike hK, hf_any hD⟩⟩ rfl rfl hl.1 rfl (lv_room (Nat.le_of_ble_eq_true rfl)) dX4_right_14 ⟨Nat.zero_le _, Nat.zero_le _⟩) hS (fun q _ h => hFc q h) hFc (fun r u t H locs ht hvm hw hB hz1 hk1 hS => ?_)
    obtain ⟨hP1, hD1⟩ := hB
    rw [ht] at hP1
    obtain ⟨rfl, rfl⟩ := hw
    have hP : va_P (dC, dI) vwCl (mL AB cI cZ (va_up sc 0 1) ar) H := hP1
    have hD : va_D V (mL AB cI cZ (va_up sc 0 1) ar) := hf_weak hD1 hFc
    clear hP1 hD1 hFc
    refine lv_if_le (tgt := 24) hx hb dX4_right_17 (by decide) (fun c17_1 => ?_) (fun c17_1 => ?_)
    · skip
      refine lv_iconst (v := 0) hx hb dX4_right_24 (by decide) ?_
      exact W.zret hx hb hr rfl (fun t ht hW => ⟨⟨_, (va_up sc 0 1, ar), rfl, ⟨rfl, rfl⟩, by rw [ht]; exact hP, hD⟩, hS.F ht⟩) hS.2.2 dX4_right_25
    · exact absurd (by decide) c17_1
