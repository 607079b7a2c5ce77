def mok (th : Nat → Bool) (ef : Nat → Nat) (τ : MS) : Prop := ∀ a, a < 8 → τ.2 1 a = b2i (th a) ∧ τ.2 5 a = nI (ef a) ∧ ef a ≤ 4
/-- what the reads of actions, clauses and goal go by -/
def frz (τ2 τ : MS) : Prop := (∀ k, k < 13 → τ2.2 k = τ.2 k) ∧ τ2.1 10 = τ.1 10 ∧ τ2.1 13 = τ.1 13 ∧ τ2.1 14 = τ.1 14
theorem frz.rf {τ : MS} : frz τ τ := ⟨fun _ _ => rfl, rfl, rfl, rfl⟩
theorem frz.trans {τ3 τ2 τ : MS} (h : frz τ3 τ2) (h2 : frz τ2 τ) : frz τ3 τ := ⟨fun k hk => (h.1 k hk).trans (h2.1 k hk), h.2.1.trans h2.2.1, h.2.2.1.trans h2.2.2.1, h.2.2.2.trans h2.2.2.2⟩
theorem vup_ne {α : Type} {f : Nat → α} {k j : Nat} {v : α} (h : ¬ j = k) : va_up f k v j = f j := by unfold va_up; exact if_neg h
theorem vup_eq {α : Type} {f : Nat → α} {k : Nat} {v : α} : va_up f k v k = v := by unfold va_up; exact if_pos rfl
theorem frz_up {sc : Nat → Int32} {ar : Nat → Nat → Int32} {τ : MS} {i : Nat} {v : Nat → Int32} (h : frz (sc, ar) τ) (hi : 13 ≤ i) : frz (sc, va_up ar i v) τ := ⟨fun k hk => (vup_ne (by omega)).trans (h.1 k hk), h.2⟩
theorem frz_sc {sc : Nat → Int32} {ar : Nat → Nat → Int32} {τ : MS} {i : Nat} {v : Int32} (h : frz (sc, ar) τ) (hi : ¬ 10 = i ∧ ¬ 13 = i ∧ ¬ 14 = i) : frz (va_up sc i v, ar) τ := ⟨h.1, (vup_ne hi.1).trans h.2.1, (vup_ne hi.2.1).trans h.2.2.1, (vup_ne hi.2.2).trans h.2.2.2⟩
theorem frz.nx {τ2 τ : MS} (h : frz τ2 τ) (a s j : Nat) : nxN τ2.2 a s j = nxN τ.2 a s j := by
  induction j with
  | zero => rfl
  | succ j ih => rw [nxN, nxN, ih, h.1 6 (by decide), h.1 7 (by decide), h.1 8 (by decide), h.1 9 (by decide)]
theorem frz.af {τ2 τ : MS} (h : frz τ2 τ) (ef : Nat → Nat) : afR ef τ2 = afR ef τ := by
  funext a b
  unfold afR
  rw [show (fun s => nxN τ2.2 a s (ef a)) = fun s => nxN τ.2 a s (ef a) from funext fun s => h.nx a s (ef a)]
theorem frz.pt {τ2 τ : MS} (h : frz τ2 τ) (ef : Nat → Nat) : ptR ef τ2 = ptR ef τ := by
  funext a b w
  unfold ptR
  rw [h.af, h.1 4 (by decide)]
theorem frz.us {τ2 τ : MS} (h : frz τ2 τ) (th : Nat → Bool) : usR th τ2 = usR th τ := by
  funext a b
  unfold usR usP
  rw [h.1 2 (by decide), h.1 3 (by decide)]
theorem frz.re {τ2 τ : MS} (h : frz τ2 τ) : reR τ2 = reR τ := by
  funext b
  unfold reR reP
  rw [h.2.2.1, h.2.2.2]
theorem frz.st {τ2 τ : MS} (h : frz τ2 τ) : stR τ2 = stR τ := by
  funext C
  unfold stR
  rw [h.1 11 (by decide), h.1 12 (by decide)]
theorem frz.mok {τ2 τ : MS} (h : frz τ2 τ) {th : Nat → Bool} {ef : Nat → Nat} (hM : mok th ef τ) : mok th ef τ2 := fun a ha => by rw [h.1 1 (by decide), h.1 5 (by decide)]; exact hM a ha
theorem reR_0 (τ : MS) : reR τ 0 = true := allN_iff.mpr fun j _ => by unfold reP; rw [b_0]; rfl
theorem nI_ge0 {d : Nat} (h : d < 2 ^ 31) : ¬ nI d < 0 := Int32.not_lt.mpr (nI_le (Nat.zero_le d) h)
theorem nI_nlt0 {d : Nat} (h : d < 2 ^ 31) : (0 : Int32) ≤ nI d := nI_le (Nat.zero_le d) h
theorem nI_inj {a b : Nat} (ha : a < 2 ^ 31) (hb : b < 2 ^ 31) (h : nI a = nI b) : a = b := by
  have h1 := nI_toInt ha
  rw [h, nI_toInt hb] at h1
  omega
set_option maxHeartbeats 4000000 in
set_option maxRecDepth 100000 in
/-- solved -/
theorem m_solved (l : Launch) (dC : Nat → ClassId) (dI : Nat → Nat → Nat) (AB : Nat → Nat) (cI cZ : ClassId) (τ : MS) (sz : Nat) {th : Nat → Bool} {ef : Nat → Nat} (hM : mok th ef τ) (b : Int32) {n : Nat} (hn4 : n ≤ 4) : Met l yX4_solved wsX4_solved ({ frames := 4, cells := 0, slots := 0, locals := 110 }) (va_Pc [.ref (AB 0), .int b, .int (nI n)] (mF dC dI AB cI cZ sz τ)) (va_Qi (fun (r : Int32) (τ2 : MS) => r = b2i (slv (usR th τ) (ptR ef τ) (reR τ) n b) ∧ ∃ x y z : Nat → Int32, τ2 = (τ.1, va_up (va_up (va_up τ.2 19 x) 20 y) 21 z)) (mB dC dI AB cI cZ (va_A (mW AB cI cZ τ) sz)) (va_A (mW AB cI cZ τ) sz)) 0 0 (va_A (mW AB cI cZ τ) sz) := by
  obtain ⟨sc, ar⟩ := τ
  refine Met.ofW (cc := cX4_solved) (maxL := 5) (ret := (some .boolean)) (by decide) rfl ?_
  intro p e s m args below meth c s₁ B hml hv
  obtain ⟨rfl, hsz, hP, hK, hD0⟩ := hv
  have hx := B.exec
  have hb := B.bytes
  have hr := B.returns
  have hts := atoms_spec (ws := wsX4_solved) B.pre
  have hown : s.vm.findClass RX4 = some m.cls := findClass_of_methodNamed B.named
  have hlocks := B.notSynchronized
  have hinX4 : ∀ w ∈ wsX40, w ∈ wsX4_solved := fun _ h => List.mem_cons_of_mem _ (List.mem_append_right _ h)
  subst hsz
  have hD := hD0.self (sz := s.heap.size)
  generalize hAe : va_A (mW AB cI cZ _) s.heap.size = V at hD ⊢
  have hA : ∀ q : Nat, s.heap.size ≤ q → V q := fun q h => by rw [← hAe]; exact Or.inr h
  have hS : va_S V s.heap s.heap [] := va_S.rf
  have hl := lv_entry ([.ref (AB 0), .int b, .int (nI n)]) (n := 5) (Nat.le_of_ble_eq_true rfl)
  rw [lg_entry_eq]
  generalize (lg_sl ([.ref (AB 0), .int b, .int (nI n)]) ++ List.replicate (5 - (lg_sl ([.ref (AB 0), .int b, .int (nI n)])).length) Slot.unset).toArray = ls at hl ⊢
  have hl : lv_has ls 5 [(0, .ref (AB 0)), (1, .int b), (2, .int (nI n))] := hl
  have hP : va_P (dC, dI) vwCl (mL AB cI cZ sc ar) s.heap := hP
  have hD : va_D V (mL AB cI cZ sc ar) := hD
  refine lv_iconst (v := 0) hx hb dX4_solved_0 (by decide) ?_
  refine lv_istore_n (lv' := [(3, .int 0), (0, .ref (AB 0)), (1, .int b), (2, .int (nI n))]) hx hb dX4_solved_1 rfl hl (by decide) rfl (fun ls hl => ?_)
  refine lv_aload_n hx hb dX4_solved_2 rfl (lv_at hl 1 rfl) ?_
  refine va_get (D := (dC, dI)) (ci := 4) (v := .ref (AB 19)) (C := RX4) (T := TX4) (N := 33) hx hb hts hinX4 hown hK hP 0 rfl rfl 19 (by decide) (hts _ (List.mem_of_getElem? (i := 1) rfl)) (fun _ h9 => h9) rfl dX4_solved_3 ?_
  refine lv_iconst (v := 0) hx hb dX4_solved_6 (by decide) ?_
  refine lv_topi (fun y0 ey0 => ?_)
  obtain rfl : y0 = nI 0 := ey0.trans (rfl)
  refine lv_iload_n hx hb dX4_solved_7 rfl (lv_at hl 2 rfl) ?_
  refine va_iast hx hb hK hP hD hS 15 0 rfl rfl (vp_in_nI (show 0 < 6 by omega) (by decide)) dX4_solved_8 (fun H locs hP hD hS => ?_)
  rw [nI_clamp (show 0 < 2 ^ 31 by have := (show 0 < 6 by omega); omega)] at hP hD
  have hP : va_P (dC, dI) vwCl (mL AB cI cZ sc (va_up ar 19 (upd (ar 19) 0 b))) H := hP
  have hD : va_D V (mL AB cI cZ sc (va_up ar 19 (upd (ar 19) 0 b))) := hD
  refine lv_aload_n hx hb dX4_solved_9 rfl (lv_at hl 1 rfl) ?_
  refine va_get (D := (dC, dI)) (ci := 4) (v := .ref (AB 20)) (C := RX4) (T := TX4) (N := 33) hx hb hts hinX4 hown hK hP 0 rfl rfl 20 (by decide) (hts _ (List.mem_of_getElem? (i := 2) rfl)) (fun _ h9 => h9) rfl dX4_solved_10 ?_
  refine lv_iconst (v := 0) hx hb dX4_solved_13 (by decide) ?_
  refine lv_topi (fun y1 ey1 => ?_)
  obtain rfl : y1 = nI 0 := ey1.trans (rfl)
  refine lv_iconst (v := (-1)) hx hb dX4_solved_14 (by decide) ?_
  refine va_iast hx hb hK hP hD hS 16 0 rfl rfl (vp_in_nI (show 0 < 6 by omega) (by decide)) dX4_solved_15 (fun H locs hP hD hS => ?_)
  rw [nI_clamp (show 0 < 2 ^ 31 by have := (show 0 < 6 by omega); omega)] at hP hD
  have hP : va_P (dC, dI) vwCl (mL AB cI cZ sc (va_up (va_up ar 19 (upd (ar 19) 0 b)) 20 (upd (ar 20) 0 (-1)))) H := hP
  have hD : va_D V (mL AB cI cZ sc (va_up (va_up ar 19 (upd (ar 19) 0 b)) 20 (upd (ar 20) 0 (-1)))) := hD
  refine lv_iconst (v := 0) hx hb dX4_solved_16 (by decide) ?_
  refine lv_istore (lv' := [(4, .int 0), (3, .int 0), (0, .ref (AB 0)), (1, .int b), (2, .int (nI n))]) hx hb dX4_solved_17 hl (by decide) rfl (fun ls hl => ?_)
  refine w_dfs (fun f an ak tk sk ls H locs => va_P (dC, dI) vwCl (mL AB cI cZ sc (va_up (va_up (va_up ar 19 ak) 20 tk) 21 sk)) H ∧ va_D V (mL AB cI cZ sc (va_up (va_up (va_up ar 19 ak) 20 tk) 21 sk)) ∧ va_S V s.heap H locs ∧ lv_has ls 5 [(0, .ref (AB 0)), (1, .int b), (2, .int (nI n)), (3, .int (dpt f)), (4, .int an)]) (usR th (sc, ar)) (ptR ef (sc, ar)) (reR (sc, ar)) n (reR_0 _) ?_ ?_ ?_ ?_ ?_ ?_ ?_ ?_ ?_ ?_ ?_ ?_ (upd (ar 19) 0 b) (upd (ar 20) 0 (-1)) (ar 21) upd_eq ?_ ?_ ls _ _ ⟨hP, hD, hS, lv_sub hl [2, 3, 4, 1, 0] rfl⟩
  · intro d ak tk sk hdn htk hre hG ls H locs hI
    obtain ⟨hP, hD, hS, hl⟩ := hI
    have hl : lv_has ls 5 [(0, .ref (AB 0)), (1, .int b), (2, .int (nI n)), (3, .int (nI d)), (4, .int 0)] := hl
    have hP : va_P (dC, dI) vwCl (mL AB cI cZ sc (va_up (va_up (va_up ar 19 ak) 20 tk) 21 sk)) H := hP
    have hD : va_D V (mL AB cI cZ sc (va_up (va_up (va_up ar 19 ak) 20 tk) 21 sk)) := hD
    refine lv_iload_n hx hb dX4_solved_19 rfl (lv_at hl 3 rfl) ?_
    refine lv_if_lt (tgt := 285) hx hb dX4_solved_20 (by decide) (fun c20_2 => ?_) (fun c20_2 => ?_)
    · exact absurd c20_2 (nI_ge0 (by omega))
    · skip
      refine lv_iload hx hb dX4_solved_23 (lv_at hl 4 rfl) ?_
      refine lv_if_ne (tgt := 81) hx hb dX4_solved_25 (by decide) (fun c25_3 => ?_) (fun c25_3 => ?_)
      · exact absurd rfl c25_3
      · skip
        refine lv_aload_n hx hb dX4_solved_28 rfl (lv_at hl 0 rfl) ?_
        refine va_get (D := (dC, dI)) (ci := 4) (v := .ref (AB 20)) (C := RX4) (T := TX4) (N := 33) hx hb hts hinX4 hown hK hP 0 rfl rfl 20 (by decide) (hts _ (List.mem_of_getElem? (i := 2) rfl)) (fun _ h9 => h9) rfl dX4_solved_29 ?_
        refine lv_iload_n hx hb dX4_solved_32 rfl (lv_at hl 3 rfl) ?_
        refine va_iald hx hb hK hP 16 0 rfl rfl (vp_in_nI (show d < 6 by omega) (by decide)) dX4_solved_33 ?_
        rw [nI_clamp (show d < 2 ^ 31 by have := (show d < 6 by omega); omega)]
        refine lv_if_ge (tgt := 81) hx hb dX4_solved_34 (by decide) (fun c34_4 => ?_) (fun c34_4 => ?_)
        · exact absurd (by rw [← htk]; exact c34_4) (show ¬ (0 : Int32) ≤ -1 by decide)
        · skip
          refine lv_aload_n hx hb dX4_solved_37 rfl (lv_at hl 0 rfl) ?_
          refine lv_aload_n hx hb dX4_solved_38 rfl (lv_at hl 0 rfl) ?_
          refine va_get (D := (dC, dI)) (ci := 4) (v := .ref (AB 19)) (C := RX4) (T := TX4) (N := 33) hx hb hts hinX4 hown hK hP 0 rfl rfl 19 (by decide) (hts _ (List.mem_of_getElem? (i := 1) rfl)) (fun _ h9 => h9) rfl dX4_solved_39 ?_
          refine lv_iload_n hx hb dX4_solved_42 rfl (lv_at hl 3 rfl) ?_
          refine va_iald hx hb hK hP 15 0 rfl rfl (vp_in_nI (show d < 6 by omega) (by decide)) dX4_solved_43 ?_
          rw [nI_clamp (show d < 2 ^ 31 by have := (show d < 6 by omega); omega)]
          refine vp_callSi (W.runV (As := [.int (ak d)]) (rest := []) ⟨hx, hb, hml, hown, hts⟩ (m_reached l dC dI AB cI cZ (sc, va_up (va_up (va_up ar 19 ak) 20 tk) 21 sk) (ak d)) (cwV 1 hts gX4_solved_X4_reached rfl rfl rfl (by decide +kernel) ⟨Nat.le_of_ble_eq_true rfl, Nat.le_of_ble_eq_true rfl⟩) ⟨bm_P, va_recv hK hP (ci := 4) (q0 := 0) rfl rfl, fun U hU hW => ⟨rfl, by rw [hU]; exact hP, va_K.moved hW.alike hK⟩⟩ rfl rfl hl.1 rfl (lv_room (Nat.le_of_ble_eq_true rfl)) dX4_solved_44 ⟨Nat.zero_le _, Nat.zero_le _⟩) (fun r er => ?_)
          obtain rfl : r = b2i (reR (sc, ar) (ak d)) := er.trans (by rw [(frz_up (frz_up (frz_up frz.rf (by decide)) (by decide)) (by decide)).re])
          refine lv_if_ne (tgt := 55) hx hb dX4_solved_47 (by decide) (fun c47_5 => ?_) (fun c47_5 => ?_)
          · skip
            refine lv_aload_n hx hb dX4_solved_55 rfl (lv_at hl 0 rfl) ?_
            refine lv_aload_n hx hb dX4_solved_56 rfl (lv_at hl 0 rfl) ?_
            refine va_get (D := (dC, dI)) (ci := 4) (v := .ref (AB 19)) (C := RX4) (T := TX4) (N := 33) hx hb hts hinX4 hown hK hP 0 rfl rfl 19 (by decide) (hts _ (List.mem_of_getElem? (i := 1) rfl)) (fun _ h9 => h9) rfl dX4_solved_57 ?_
            refine lv_iload_n hx hb dX4_solved_60 rfl (lv_at hl 3 rfl) ?_
            refine va_iald hx hb hK hP 15 0 rfl rfl (vp_in_nI (show d < 6 by omega) (by decide)) dX4_solved_61 ?_
            rw [nI_clamp (show d < 2 ^ 31 by have := (show d < 6 by omega); omega)]
            refine vp_callSi (W.runV (As := [.int (ak d)]) (rest := []) ⟨hx, hb, hml, hown, hts⟩ (m_reached l dC dI AB cI cZ (sc, va_up (va_up (va_up ar 19 ak) 20 tk) 21 sk) (ak d)) (cwV 1 hts gX4_solved_X4_reached rfl rfl rfl (by decide +kernel) ⟨Nat.le_of_ble_eq_true rfl, Nat.le_of_ble_eq_true rfl⟩) ⟨bm_P, va_recv hK hP (ci := 4) (q0 := 0) rfl rfl, fun U hU hW => ⟨rfl, by rw [hU]; exact hP, va_K.moved hW.alike hK⟩⟩ rfl rfl hl.1 rfl (lv_room (Nat.le_of_ble_eq_true rfl)) dX4_solved_62 ⟨Nat.zero_le _, Nat.zero_le _⟩) (fun r er => ?_)
            obtain rfl : r = b2i (reR (sc, ar) (ak d)) := er.trans (by rw [(frz_up (frz_up (frz_up frz.rf (by decide)) (by decide)) (by decide)).re])
            refine lv_if_eq (tgt := 72) hx hb dX4_solved_65 (by decide) (fun c65_6 => ?_) (fun c65_6 => ?_)
            · exact absurd hre (by rw [b2i_0.mp c65_6]; decide)
            · skip
              refine lv_iconst (v := 1) hx hb dX4_solved_68 (by decide) ?_
              refine lv_goto (tgt := 73) hx hb dX4_solved_69 (by decide) ?_
              refine lv_istore (lv' := [(4, .int 1), (0, .ref (AB 0)), (1, .int b), (2, .int (nI n)), (3, .int (nI d))]) hx hb dX4_solved_73 hl (by decide) rfl (fun ls hl => ?_)
              obtain ⟨y7, ey7⟩ : ∃ y : Int32, y = (nI d) + (-1) := ⟨_, rfl⟩
              refine lv_iinc (v := y7) (lv' := [(3, .int y7), (4, .int 1), (0, .ref (AB 0)), (1, .int b), (2, .int (nI n))]) hx hb dX4_solved_75 hl (k := 4) rfl (by rw [ey7]; rfl) (by decide) rfl (fun ls hl => ?_)
              obtain rfl : y7 = dpt d := ey7.trans (dpt_a d)
              refine lv_goto (tgt := 19) hx hb dX4_solved_78 (by decide) ?_
              exact hG ls H locs ⟨hP, hD, hS, lv_sub hl [2, 3, 4, 0, 1] rfl⟩
          · exact absurd hre (by rw [b2i_0.mp c47_5]; decide)
  · intro ak tk sk htk hre hG ls H locs hI
    obtain ⟨hP, hD, hS, hl⟩ := hI
    have hl : lv_has ls 5 [(0, .ref (AB 0)), (1, .int b), (2, .int (nI n)), (3, .int (nI n)), (4, .int 0)] := hl
    have hP : va_P (dC, dI) vwCl (mL AB cI cZ sc (va_up (va_up (va_up ar 19 ak) 20 tk) 21 sk)) H := hP
    have hD : va_D V (mL AB cI cZ sc (va_up (va_up (va_up ar 19 ak) 20 tk) 21 sk)) := hD
    refine lv_iload_n hx hb dX4_solved_19 rfl (lv_at hl 3 rfl) ?_
    refine lv_if_lt (tgt := 285) hx hb dX4_solved_20 (by decide) (fun c20_8 => ?_) (fun c20_8 => ?_)
    · exact absurd c20_8 (nI_ge0 (by omega))
    · skip
      refine lv_iload hx hb dX4_solved_23 (lv_at hl 4 rfl) ?_
      refine lv_if_ne (tgt := 81) hx hb dX4_solved_25 (by decide) (fun c25_9 => ?_) (fun c25_9 => ?_)
      · exact absurd rfl c25_9
      · skip
        refine lv_aload_n hx hb dX4_solved_28 rfl (lv_at hl 0 rfl) ?_
        refine va_get (D := (dC, dI)) (ci := 4) (v := .ref (AB 20)) (C := RX4) (T := TX4) (N := 33) hx hb hts hinX4 hown hK hP 0 rfl rfl 20 (by decide) (hts _ (List.mem_of_getElem? (i := 2) rfl)) (fun _ h9 => h9) rfl dX4_solved_29 ?_
        refine lv_iload_n hx hb dX4_solved_32 rfl (lv_at hl 3 rfl) ?_
        refine va_iald hx hb hK hP 16 0 rfl rfl (vp_in_nI (show n < 6 by omega) (by decide)) dX4_solved_33 ?_
        rw [nI_clamp (show n < 2 ^ 31 by have := (show n < 6 by omega); omega)]
        refine lv_if_ge (tgt := 81) hx hb dX4_solved_34 (by decide) (fun c34_10 => ?_) (fun c34_10 => ?_)
        · exact absurd (by rw [← htk]; exact c34_10) (show ¬ (0 : Int32) ≤ -1 by decide)
        · skip
          refine lv_aload_n hx hb dX4_solved_37 rfl (lv_at hl 0 rfl) ?_
          refine lv_aload_n hx hb dX4_solved_38 rfl (lv_at hl 0 rfl) ?_
          refine va_get (D := (dC, dI)) (ci := 4) (v := .ref (AB 19)) (C := RX4) (T := TX4) (N := 33) hx hb hts hinX4 hown hK hP 0 rfl rfl 19 (by decide) (hts _ (List.mem_of_getElem? (i := 1) rfl)) (fun _ h9 => h9) rfl dX4_solved_39 ?_
          refine lv_iload_n hx hb dX4_solved_42 rfl (lv_at hl 3 rfl) ?_
          refine va_iald hx hb hK hP 15 0 rfl rfl (vp_in_nI (show n < 6 by omega) (by decide)) dX4_solved_43 ?_
          rw [nI_clamp (show n < 2 ^ 31 by have := (show n < 6 by omega); omega)]
          refine vp_callSi (W.runV (As := [.int (ak n)]) (rest := []) ⟨hx, hb, hml, hown, hts⟩ (m_reached l dC dI AB cI cZ (sc, va_up (va_up (va_up ar 19 ak) 20 tk) 21 sk) (ak n)) (cwV 1 hts gX4_solved_X4_reached rfl rfl rfl (by decide +kernel) ⟨Nat.le_of_ble_eq_true rfl, Nat.le_of_ble_eq_true rfl⟩) ⟨bm_P, va_recv hK hP (ci := 4) (q0 := 0) rfl rfl, fun U hU hW => ⟨rfl, by rw [hU]; exact hP, va_K.moved hW.alike hK⟩⟩ rfl rfl hl.1 rfl (lv_room (Nat.le_of_ble_eq_true rfl)) dX4_solved_44 ⟨Nat.zero_le _, Nat.zero_le _⟩) (fun r er => ?_)
          obtain rfl : r = b2i (reR (sc, ar) (ak n)) := er.trans (by rw [(frz_up (frz_up (frz_up frz.rf (by decide)) (by decide)) (by decide)).re])
          refine lv_if_ne (tgt := 55) hx hb dX4_solved_47 (by decide) (fun c47_11 => ?_) (fun c47_11 => ?_)
          · exact absurd (b2i_n0.mp c47_11) (by rw [hre]; decide)
          · skip
            refine lv_iload_n hx hb dX4_solved_50 rfl (lv_at hl 3 rfl) ?_
            refine lv_iload_n hx hb dX4_solved_51 rfl (lv_at hl 2 rfl) ?_
            refine lv_icmp_ne (tgt := 81) hx hb dX4_solved_52 (by decide) (fun c52_12 => ?_) (fun c52_12 => ?_)
            · exact absurd rfl c52_12
            · skip
              refine lv_aload_n hx hb dX4_solved_55 rfl (lv_at hl 0 rfl) ?_
              refine lv_aload_n hx hb dX4_solved_56 rfl (lv_at hl 0 rfl) ?_
              refine va_get (D := (dC, dI)) (ci := 4) (v := .ref (AB 19)) (C := RX4) (T := TX4) (N := 33) hx hb hts hinX4 hown hK hP 0 rfl rfl 19 (by decide) (hts _ (List.mem_of_getElem? (i := 1) rfl)) (fun _ h9 => h9) rfl dX4_solved_57 ?_
              refine lv_iload_n hx hb dX4_solved_60 rfl (lv_at hl 3 rfl) ?_
              refine va_iald hx hb hK hP 15 0 rfl rfl (vp_in_nI (show n < 6 by omega) (by decide)) dX4_solved_61 ?_
              rw [nI_clamp (show n < 2 ^ 31 by have := (show n < 6 by omega); omega)]
              refine vp_callSi (W.runV (As := [.int (ak n)]) (rest := []) ⟨hx, hb, hml, hown, hts⟩ (m_reached l dC dI AB cI cZ (sc, va_up (va_up (va_up ar 19 ak) 20 tk) 21 sk) (ak n)) (cwV 1 hts gX4_solved_X4_reached rfl rfl rfl (by decide +kernel) ⟨Nat.le_of_ble_eq_true rfl, Nat.le_of_ble_eq_true rfl⟩) ⟨bm_P, va_recv hK hP (ci := 4) (q0 := 0) rfl rfl, fun U hU hW => ⟨rfl, by rw [hU]; exact hP, va_K.moved hW.alike hK⟩⟩ rfl rfl hl.1 rfl (lv_room (Nat.le_of_ble_eq_true rfl)) dX4_solved_62 ⟨Nat.zero_le _, Nat.zero_le _⟩) (fun r er => ?_)
              obtain rfl : r = b2i (reR (sc, ar) (ak n)) := er.trans (by rw [(frz_up (frz_up (frz_up frz.rf (by decide)) (by decide)) (by decide)).re])
              refine lv_if_eq (tgt := 72) hx hb dX4_solved_65 (by decide) (fun c65_13 => ?_) (fun c65_13 => ?_)
              · skip
                refine lv_iconst (v := 2) hx hb dX4_solved_72 (by decide) ?_
                refine lv_istore (lv' := [(4, .int 2), (0, .ref (AB 0)), (1, .int b), (2, .int (nI n)), (3, .int (nI n))]) hx hb dX4_solved_73 hl (by decide) rfl (fun ls hl => ?_)
                obtain ⟨y14, ey14⟩ : ∃ y : Int32, y = (nI n) + (-1) := ⟨_, rfl⟩
                refine lv_iinc (v := y14) (lv' := [(3, .int y14), (4, .int 2), (0, .ref (AB 0)), (1, .int b), (2, .int (nI n))]) hx hb dX4_solved_75 hl (k := 4) rfl (by rw [ey14]; rfl) (by decide) rfl (fun ls hl => ?_)
                obtain rfl : y14 = dpt n := ey14.trans (dpt_a n)
                refine lv_goto (tgt := 19) hx hb dX4_solved_78 (by decide) ?_
                exact hG ls H locs ⟨hP, hD, hS, lv_sub hl [2, 3, 4, 0, 1] rfl⟩
              · exact absurd (b2i_n0.mp c65_13) (by rw [hre]; decide)
  · intro d ak tk sk hdn htk hre hG ls H locs hI
    obtain ⟨hP, hD, hS, hl⟩ := hI
    have hl : lv_has ls 5 [(0, .ref (AB 0)), (1, .int b), (2, .int (nI n)), (3, .int (nI d)), (4, .int 0)] := hl
    have hP : va_P (dC, dI) vwCl (mL AB cI cZ sc (va_up (va_up (va_up ar 19 ak) 20 tk) 21 sk)) H := hP
    have hD : va_D V (mL AB cI cZ sc (va_up (va_up (va_up ar 19 ak) 20 tk) 21 sk)) := hD
    refine lv_iload_n hx hb dX4_solved_19 rfl (lv_at hl 3 rfl) ?_
    refine lv_if_lt (tgt := 285) hx hb dX4_solved_20 (by decide) (fun c20_15 => ?_) (fun c20_15 => ?_)
    · exact absurd c20_15 (nI_ge0 (by omega))
    · skip
      refine lv_iload hx hb dX4_solved_23 (lv_at hl 4 rfl) ?_
      refine lv_if_ne (tgt := 81) hx hb dX4_solved_25 (by decide) (fun c25_16 => ?_) (fun c25_16 => ?_)
      · exact absurd rfl c25_16
      · skip
        refine lv_aload_n hx hb dX4_solved_28 rfl (lv_at hl 0 rfl) ?_
        refine va_get (D := (dC, dI)) (ci := 4) (v := .ref (AB 20)) (C := RX4) (T := TX4) (N := 33) hx hb hts hinX4 hown hK hP 0 rfl rfl 20 (by decide) (hts _ (List.mem_of_getElem? (i := 2) rfl)) (fun _ h9 => h9) rfl dX4_solved_29 ?_
        refine lv_iload_n hx hb dX4_solved_32 rfl (lv_at hl 3 rfl) ?_
        refine va_iald hx hb hK hP 16 0 rfl rfl (vp_in_nI (show d < 6 by omega) (by decide)) dX4_solved_33 ?_
        rw [nI_clamp (show d < 2 ^ 31 by have := (show d < 6 by omega); omega)]
        refine lv_if_ge (tgt := 81) hx hb dX4_solved_34 (by decide) (fun c34_17 => ?_) (fun c34_17 => ?_)
        · exact absurd (by rw [← htk]; exact c34_17) (show ¬ (0 : Int32) ≤ -1 by decide)
        · skip
          refine lv_aload_n hx hb dX4_solved_37 rfl (lv_at hl 0 rfl) ?_
          refine lv_aload_n hx hb dX4_solved_38 rfl (lv_at hl 0 rfl) ?_
          refine va_get (D := (dC, dI)) (ci := 4) (v := .ref (AB 19)) (C := RX4) (T := TX4) (N := 33) hx hb hts hinX4 hown hK hP 0 rfl rfl 19 (by decide) (hts _ (List.mem_of_getElem? (i := 1) rfl)) (fun _ h9 => h9) rfl dX4_solved_39 ?_
          refine lv_iload_n hx hb dX4_solved_42 rfl (lv_at hl 3 rfl) ?_
          refine va_iald hx hb hK hP 15 0 rfl rfl (vp_in_nI (show d < 6 by omega) (by decide)) dX4_solved_43 ?_
          rw [nI_clamp (show d < 2 ^ 31 by have := (show d < 6 by omega); omega)]
          refine vp_callSi (W.runV (As := [.int (ak d)]) (rest := []) ⟨hx, hb, hml, hown, hts⟩ (m_reached l dC dI AB cI cZ (sc, va_up (va_up (va_up ar 19 ak) 20 tk) 21 sk) (ak d)) (cwV 1 hts gX4_solved_X4_reached rfl rfl rfl (by decide +kernel) ⟨Nat.le_of_ble_eq_true rfl, Nat.le_of_ble_eq_true rfl⟩) ⟨bm_P, va_recv hK hP (ci := 4) (q0 := 0) rfl rfl, fun U hU hW => ⟨rfl, by rw [hU]; exact hP, va_K.moved hW.alike hK⟩⟩ rfl rfl hl.1 rfl (lv_room (Nat.le_of_ble_eq_true rfl)) dX4_solved_44 ⟨Nat.zero_le _, Nat.zero_le _⟩) (fun r er => ?_)
          obtain rfl : r = b2i (reR (sc, ar) (ak d)) := er.trans (by rw [(frz_up (frz_up (frz_up frz.rf (by decide)) (by decide)) (by decide)).re])
          refine lv_if_ne (tgt := 55) hx hb dX4_solved_47 (by decide) (fun c47_18 => ?_) (fun c47_18 => ?_)
          · exact absurd (b2i_n0.mp c47_18) (by rw [hre]; decide)
          · skip
            refine lv_iload_n hx hb dX4_solved_50 rfl (lv_at hl 3 rfl) ?_
            refine lv_iload_n hx hb dX4_solved_51 rfl (lv_at hl 2 rfl) ?_
            refine lv_icmp_ne (tgt := 81) hx hb dX4_solved_52 (by decide) (fun c52_19 => ?_) (fun c52_19 => ?_)
            · skip
              refine lv_iload hx hb dX4_solved_81 (lv_at hl 4 rfl) ?_
              refine lv_iconst (v := 1) hx hb dX4_solved_83 (by decide) ?_
              refine lv_icmp_ne (tgt := 103) hx hb dX4_solved_84 (by decide) (fun c84_20 => ?_) (fun c84_20 => ?_)
              · skip
                refine lv_iload hx hb dX4_solved_103 (lv_at hl 4 rfl) ?_
                refine lv_iconst (v := 1) hx hb dX4_solved_105 (by decide) ?_
                refine lv_icmp_ne (tgt := 119) hx hb dX4_solved_106 (by decide) (fun c106_21 => ?_) (fun c106_21 => ?_)
                · skip
                  exact hG ls H locs ⟨hP, hD, hS, lv_sub hl [0, 1, 2, 3, 4] rfl⟩
                · exact absurd c106_21 (by decide)
              · exact absurd c84_20 (by decide)
            · exact absurd (nI_inj (by omega) (by omega) c52_19) (by omega)
  · intro d ak tk sk hdn hsk hG ls H locs hI
    obtain ⟨hP, hD, hS, hl⟩ := hI
    have hl : lv_has ls 5 [(0, .ref (AB 0)), (1, .int b), (2, .int (nI n)), (3, .int (nI d)), (4, .int 1)] := hl
    have hP : va_P (dC, dI) vwCl (mL AB cI cZ sc (va_up (va_up (va_up ar 19 ak) 20 tk) 21 sk)) H := hP
    have hD : va_D V (mL AB cI cZ sc (va_up (va_up (va_up ar 19 ak) 20 tk) 21 sk)) := hD
    refine lv_iload_n hx hb dX4_solved_19 rfl (lv_at hl 3 rfl) ?_
    refine lv_if_lt (tgt := 285) hx hb dX4_solved_20 (by decide) (fun c20_22 => ?_) (fun c20_22 => ?_)
    · exact absurd c20_22 (nI_ge0 (by omega))
    · skip
      refine lv_iload hx hb dX4_solved_23 (lv_at hl 4 rfl) ?_
      refine lv_if_ne (tgt := 81) hx hb dX4_solved_25 (by decide) (fun c25_23 => ?_) (fun c25_23 => ?_)
      · skip
        refine lv_iload hx hb dX4_solved_81 (lv_at hl 4 rfl) ?_
        refine lv_iconst (v := 1) hx hb dX4_solved_83 (by decide) ?_
        refine lv_icmp_ne (tgt := 103) hx hb dX4_solved_84 (by decide) (fun c84_24 => ?_) (fun c84_24 => ?_)
        · exact absurd rfl c84_24
        · skip
          refine lv_aload_n hx hb dX4_solved_87 rfl (lv_at hl 0 rfl) ?_
          refine va_get (D := (dC, dI)) (ci := 4) (v := .ref (AB 21)) (C := RX4) (T := TX4) (N := 33) hx hb hts hinX4 hown hK hP 0 rfl rfl 21 (by decide) (hts _ (List.mem_of_getElem? (i := 3) rfl)) (fun _ h9 => h9) rfl dX4_solved_88 ?_
          refine lv_iload_n hx hb dX4_solved_91 rfl (lv_at hl 3 rfl) ?_
          refine va_iald hx hb hK hP 17 0 rfl rfl (vp_in_nI (show d < 6 by omega) (by decide)) dX4_solved_92 ?_
          rw [nI_clamp (show d < 2 ^ 31 by have := (show d < 6 by omega); omega)]
          refine lv_iconst (v := 1) hx hb dX4_solved_93 (by decide) ?_
          refine lv_icmp_ne (tgt := 103) hx hb dX4_solved_94 (by decide) (fun c94_25 => ?_) (fun c94_25 => ?_)
          · exact absurd hsk c94_25
          · skip
            obtain ⟨y26, ey26⟩ : ∃ y : Int32, y = (nI d) + (-1) := ⟨_, rfl⟩
            refine lv_iinc (v := y26) (lv' := [(3, .int y26), (0, .ref (AB 0)), (1, .int b), (2, .int (nI n)), (4, .int 1)]) hx hb dX4_solved_97 hl (k := 3) rfl (by rw [ey26]; rfl) (by decide) rfl (fun ls hl => ?_)
            obtain rfl : y26 = dpt d := ey26.trans (dpt_a d)
            refine lv_goto (tgt := 19) hx hb dX4_solved_100 (by decide) ?_
            exact hG ls H locs ⟨hP, hD, hS, lv_sub hl [1, 2, 3, 0, 4] rfl⟩
      · exact absurd c25_23 (by decide)
  · intro d ak tk sk hdn hsk hG ls H locs hI
    obtain ⟨hP, hD, hS, hl⟩ := hI
    have hl : lv_has ls 5 [(0, .ref (AB 0)), (1, .int b), (2, .int (nI n)), (3, .int (nI d)), (4, .int 1)] := hl
    have hP : va_P (dC, dI) vwCl (mL AB cI cZ sc (va_up (va_up (va_up ar 19 ak) 20 tk) 21 sk)) H := hP
    have hD : va_D V (mL AB cI cZ sc (va_up (va_up (va_up ar 19 ak) 20 tk) 21 sk)) := hD
    refine lv_iload_n hx hb dX4_solved_19 rfl (lv_at hl 3 rfl) ?_
    refine lv_if_lt (tgt := 285) hx hb dX4_solved_20 (by decide) (fun c20_27 => ?_) (fun c20_27 => ?_)
    · exact absurd c20_27 (nI_ge0 (by omega))
    · skip
      refine lv_iload hx hb dX4_solved_23 (lv_at hl 4 rfl) ?_
      refine lv_if_ne (tgt := 81) hx hb dX4_solved_25 (by decide) (fun c25_28 => ?_) (fun c25_28 => ?_)
      · skip
        refine lv_iload hx hb dX4_solved_81 (lv_at hl 4 rfl) ?_
        refine lv_iconst (v := 1) hx hb dX4_solved_83 (by decide) ?_
        refine lv_icmp_ne (tgt := 103) hx hb dX4_solved_84 (by decide) (fun c84_29 => ?_) (fun c84_29 => ?_)
        · exact absurd rfl c84_29
        · skip
          refine lv_aload_n hx hb dX4_solved_87 rfl (lv_at hl 0 rfl) ?_
          refine va_get (D := (dC, dI)) (ci := 4) (v := .ref (AB 21)) (C := RX4) (T := TX4) (N := 33) hx hb hts hinX4 hown hK hP 0 rfl rfl 21 (by decide) (hts _ (List.mem_of_getElem? (i := 3) rfl)) (fun _ h9 => h9) rfl dX4_solved_88 ?_
          refine lv_iload_n hx hb dX4_solved_91 rfl (lv_at hl 3 rfl) ?_
          refine va_iald hx hb hK hP 17 0 rfl rfl (vp_in_nI (show d < 6 by omega) (by decide)) dX4_solved_92 ?_
          rw [nI_clamp (show d < 2 ^ 31 by have := (show d < 6 by omega); omega)]
          refine lv_iconst (v := 1) hx hb dX4_solved_93 (by decide) ?_
          refine lv_icmp_ne (tgt := 103) hx hb dX4_solved_94 (by decide) (fun c94_30 => ?_) (fun c94_30 => ?_)
          · skip
            refine lv_iload hx hb dX4_solved_103 (lv_at hl 4 rfl) ?_
            refine lv_iconst (v := 1) hx hb dX4_solved_105 (by decide) ?_
            refine lv_icmp_ne (tgt := 119) hx hb dX4_solved_106 (by decide) (fun c106_31 => ?_) (fun c106_31 => ?_)
            · exact absurd rfl c106_31
            · skip
              refine lv_aload_n hx hb dX4_solved_109 rfl (lv_at hl 0 rfl) ?_
              refine va_get (D := (dC, dI)) (ci := 4) (v := .ref (AB 21)) (C := RX4) (T := TX4) (N := 33) hx hb hts hinX4 hown hK hP 0 rfl rfl 21 (by decide) (hts _ (List.mem_of_getElem? (i := 3) rfl)) (fun _ h9 => h9) rfl dX4_solved_110 ?_
              refine lv_iload_n hx hb dX4_solved_113 rfl (lv_at hl 3 rfl) ?_
              refine lv_iconst (v := 1) hx hb dX4_solved_114 (by decide) ?_
              refine va_iast hx hb hK hP hD hS 17 0 rfl rfl (vp_in_nI (show d < 6 by omega) (by decide)) dX4_solved_115 (fun H locs hP hD hS => ?_)
              rw [nI_clamp (show d < 2 ^ 31 by have := (show d < 6 by omega); omega)] at hP hD
              have hP : va_P (dC, dI) vwCl (mL AB cI cZ sc (va_up (va_up (va_up ar 19 ak) 20 tk) 21 (upd sk d 1))) H := hP
              have hD : va_D V (mL AB cI cZ sc (va_up (va_up (va_up ar 19 ak) 20 tk) 21 (upd sk d 1))) := hD
              refine lv_goto (tgt := 179) hx hb dX4_solved_116 (by decide) ?_
              exact hG ls H locs ⟨hP, hD, hS, lv_sub hl [0, 1, 2, 3, 4] rfl⟩
          · exact absurd (hsk.symm.trans c94_30) (by decide)
      · exact absurd c25_28 (by decide)
  · intro d ak tk sk hdn hG ls H locs hI
    obtain ⟨hP, hD, hS, hl⟩ := hI
    have hl : lv_has ls 5 [(0, .ref (AB 0)), (1, .int b), (2, .int (nI n)), (3, .int (nI d)), (4, .int 2)] := hl
    have hP : va_P (dC, dI) vwCl (mL AB cI cZ sc (va_up (va_up (va_up ar 19 ak) 20 tk) 21 sk)) H := hP
    have hD : va_D V (mL AB cI cZ sc (va_up (va_up (va_up ar 19 ak) 20 tk) 21 sk)) := hD
    refine lv_iload_n hx hb dX4_solved_19 rfl (lv_at hl 3 rfl) ?_
    refine lv_if_lt (tgt := 285) hx hb dX4_solved_20 (by decide) (fun c20_32 => ?_) (fun c20_32 => ?_)
    · exact absurd c20_32 (nI_ge0 (by omega))
    · skip
      refine lv_iload hx hb dX4_solved_23 (lv_at hl 4 rfl) ?_
      refine lv_if_ne (tgt := 81) hx hb dX4_solved_25 (by decide) (fun c25_33 => ?_) (fun c25_33 => ?_)
      · skip
        refine lv_iload hx hb dX4_solved_81 (lv_at hl 4 rfl) ?_
        refine lv_iconst (v := 1) hx hb dX4_solved_83 (by decide) ?_
        refine lv_icmp_ne (tgt := 103) hx hb dX4_solved_84 (by decide) (fun c84_34 => ?_) (fun c84_34 => ?_)
        · skip
          refine lv_iload hx hb dX4_solved_103 (lv_at hl 4 rfl) ?_
          refine lv_iconst (v := 1) hx hb dX4_solved_105 (by decide) ?_
          refine lv_icmp_ne (tgt := 119) hx hb dX4_solved_106 (by decide) (fun c106_35 => ?_) (fun c106_35 => ?_)
          · skip
            exact hG ls H locs ⟨hP, hD, hS, lv_sub hl [0, 1, 2, 3, 4] rfl⟩
          · exact absurd c106_35 (by decide)
        · exact absurd c84_34 (by decide)
      · exact absurd c25_33 (by decide)
  · intro d an ak tk sk hdn hG ls H locs hI
    obtain ⟨hP, hD, hS, hl⟩ := hI
    have hl : lv_has ls 5 [(0, .ref (AB 0)), (1, .int b), (2, .int (nI n)), (3, .int (nI d)), (4, .int an)] := hl
    have hP : va_P (dC, dI) vwCl (mL AB cI cZ sc (va_up (va_up (va_up ar 19 ak) 20 tk) 21 sk)) H := hP
    have hD : va_D V (mL AB cI cZ sc (va_up (va_up (va_up ar 19 ak) 20 tk) 21 sk)) := hD
    refine lv_aload_n hx hb dX4_solved_119 rfl (lv_at hl 0 rfl) ?_
    refine va_get (D := (dC, dI)) (ci := 4) (v := .ref (AB 20)) (C := RX4) (T := TX4) (N := 33) hx hb hts hinX4 hown hK hP 0 rfl rfl 20 (by decide) (hts _ (List.mem_of_getElem? (i := 2) rfl)) (fun _ h9 => h9) rfl dX4_solved_120 ?_
    refine lv_iload_n hx hb dX4_solved_123 rfl (lv_at hl 3 rfl) ?_
    refine lv_dup2_11 hx hb dX4_solved_124 rfl rfl ?_
    refine va_iald hx hb hK hP 16 0 rfl rfl (vp_in_nI (show d < 6 by omega) (by decide)) dX4_solved_125 ?_
    rw [nI_clamp (show d < 2 ^ 31 by have := (show d < 6 by omega); omega)]
    refine lv_iconst (v := 1) hx hb dX4_solved_126 (by decide) ?_
    refine lv_iadd hx hb dX4_solved_127 ?_
    refine va_iast hx hb hK hP hD hS 16 0 rfl rfl (vp_in_nI (show d < 6 by omega) (by decide)) dX4_solved_128 (fun H locs hP hD hS => ?_)
    rw [nI_clamp (show d < 2 ^ 31 by have := (show d < 6 by omega); omega)] at hP hD
    have hP : va_P (dC, dI) vwCl (mL AB cI cZ sc (va_up (va_up (va_up ar 19 ak) 20 (upd tk d ((tk d) + 1))) 21 sk)) H := hP
    have hD : va_D V (mL AB cI cZ sc (va_up (va_up (va_up ar 19 ak) 20 (upd tk d ((tk d) + 1))) 21 sk)) := hD
    refine lv_aload_n hx hb dX4_solved_129 rfl (lv_at hl 0 rfl) ?_
    refine va_get (D := (dC, dI)) (ci := 4) (v := .ref (AB 21)) (C := RX4) (T := TX4) (N := 33) hx hb hts hinX4 hown hK hP 0 rfl rfl 21 (by decide) (hts _ (List.mem_of_getElem? (i := 3) rfl)) (fun _ h9 => h9) rfl dX4_solved_130 ?_
    refine lv_iload_n hx hb dX4_solved_133 rfl (lv_at hl 3 rfl) ?_
    refine lv_iconst (v := 0) hx hb dX4_solved_134 (by decide) ?_
    refine va_iast hx hb hK hP hD hS 17 0 rfl rfl (vp_in_nI (show d < 6 by omega) (by decide)) dX4_solved_135 (fun H locs hP hD hS => ?_)
    rw [nI_clamp (show d < 2 ^ 31 by have := (show d < 6 by omega); omega)] at hP hD
    have hP : va_P (dC, dI) vwCl (mL AB cI cZ sc (va_up (va_up (va_up ar 19 ak) 20 (upd tk d ((tk d) + 1))) 21 (upd sk d 0))) H := hP
    have hD : va_D V (mL AB cI cZ sc (va_up (va_up (va_up ar 19 ak) 20 (upd tk d ((tk d) + 1))) 21 (upd sk d 0))) := hD
    exact hG ls H locs ⟨hP, hD, hS, lv_sub hl [0, 1, 2, 3, 4] rfl⟩
  · intro d t an ak tk sk hdn ht8 htk hus hG ls H locs hI
    obtain ⟨hP, hD, hS, hl⟩ := hI
    have hl : lv_has ls 5 [(0, .ref (AB 0)), (1, .int b), (2, .int (nI n)), (3, .int (nI d)), (4, .int an)] := hl
    have hP : va_P (dC, dI) vwCl (mL AB cI cZ sc (va_up (va_up (va_up ar 19 ak) 20 tk) 21 sk)) H := hP
    have hD : va_D V (mL AB cI cZ sc (va_up (va_up (va_up ar 19 ak) 20 tk) 21 sk)) := hD
    refine lv_aload_n hx hb dX4_solved_136 rfl (lv_at hl 0 rfl) ?_
    refine va_get (D := (dC, dI)) (ci := 4) (v := .ref (AB 20)) (C := RX4) (T := TX4) (N := 33) hx hb hts hinX4 hown hK hP 0 rfl rfl 20 (by decide) (hts _ (List.mem_of_getElem? (i := 2) rfl)) (fun _ h9 => h9) rfl dX4_solved_137 ?_
    refine lv_iload_n hx hb dX4_solved_140 rfl (lv_at hl 3 rfl) ?_
    refine va_iald hx hb hK hP 16 0 rfl rfl (vp_in_nI (show d < 6 by omega) (by decide)) dX4_solved_141 ?_
    rw [nI_clamp (show d < 2 ^ 31 by have := (show d < 6 by omega); omega)]
    refine lv_topi (fun y36 ey36 => ?_)
    obtain rfl : y36 = nI t := ey36.trans (htk)
    refine lv_bipush (v := 8) hx hb dX4_solved_142 (by decide) ?_
    refine lv_icmp_ge (tgt := 179) hx hb dX4_solved_144 (by decide) (fun c144_37 => ?_) (fun c144_37 => ?_)
    · exact absurd c144_37 (Int32.not_le.mpr (nI_lt (a := t) (b := 8) ht8 (by decide)))
    · skip
      refine lv_aload_n hx hb dX4_solved_147 rfl (lv_at hl 0 rfl) ?_
      refine lv_aload_n hx hb dX4_solved_148 rfl (lv_at hl 0 rfl) ?_
      refine va_get (D := (dC, dI)) (ci := 4) (v := .ref (AB 20)) (C := RX4) (T := TX4) (N := 33) hx hb hts hinX4 hown hK hP 0 rfl rfl 20 (by decide) (hts _ (List.mem_of_getElem? (i := 2) rfl)) (fun _ h9 => h9) rfl dX4_solved_149 ?_
      refine lv_iload_n hx hb dX4_solved_152 rfl (lv_at hl 3 rfl) ?_
      refine va_iald hx hb hK hP 16 0 rfl rfl (vp_in_nI (show d < 6 by omega) (by decide)) dX4_solved_153 ?_
      rw [nI_clamp (show d < 2 ^ 31 by have := (show d < 6 by omega); omega)]
      refine lv_topi (fun y38 ey38 => ?_)
      obtain rfl : y38 = nI t := ey38.trans (htk)
      refine lv_aload_n hx hb dX4_solved_154 rfl (lv_at hl 0 rfl) ?_
      refine va_get (D := (dC, dI)) (ci := 4) (v := .ref (AB 19)) (C := RX4) (T := TX4) (N := 33) hx hb hts hinX4 hown hK hP 0 rfl rfl 19 (by decide) (hts _ (List.mem_of_getElem? (i := 1) rfl)) (fun _ h9 => h9) rfl dX4_solved_155 ?_
      refine lv_iload_n hx hb dX4_solved_158 rfl (lv_at hl 3 rfl) ?_
      refine va_iald hx hb hK hP 15 0 rfl rfl (vp_in_nI (show d < 6 by omega) (by decide)) dX4_solved_159 ?_
      rw [nI_clamp (show d < 2 ^ 31 by have := (show d < 6 by omega); omega)]
      refine vp_callSi (W.runV (As := [.int (nI t), .int (ak d)]) (rest := []) ⟨hx, hb, hml, hown, hts⟩ (m_usable l dC dI AB cI cZ (sc, va_up (va_up (va_up ar 19 ak) 20 tk) 21 sk) th ht8 ((frz_up (frz_up (frz_up frz.rf (by decide)) (by decide)) (by decide)).mok hM _ ht8).1 (ak d)) (cwV 2 hts gX4_solved_X4_usable rfl rfl rfl (by decide +kernel) ⟨Nat.le_of_ble_eq_true rfl, Nat.le_of_ble_eq_true rfl⟩) ⟨bm_P, va_recv hK hP (ci := 4) (q0 := 0) rfl rfl, fun U hU hW => ⟨rfl, by rw [hU]; exact hP, va_K.moved hW.alike hK⟩⟩ rfl rfl hl.1 rfl (lv_room (Nat.le_of_ble_eq_true rfl)) dX4_solved_160 ⟨Nat.zero_le _, Nat.zero_le _⟩) (fun r er => ?_)
      obtain rfl : r = b2i (usR th (sc, ar) t (ak d)) := er.trans (by rw [(frz_up (frz_up (frz_up frz.rf (by decide)) (by decide)) (by decide)).us])
      refine lv_if_ne (tgt := 179) hx hb dX4_solved_163 (by decide) (fun c163_39 => ?_) (fun c163_39 => ?_)
      · exact absurd (b2i_n0.mp c163_39) (by rw [hus]; decide)
      · skip
        refine lv_aload_n hx hb dX4_solved_166 rfl (lv_at hl 0 rfl) ?_
        refine va_get (D := (dC, dI)) (ci := 4) (v := .ref (AB 20)) (C := RX4) (T := TX4) (N := 33) hx hb hts hinX4 hown hK hP 0 rfl rfl 20 (by decide) (hts _ (List.mem_of_getElem? (i := 2) rfl)) (fun _ h9 => h9) rfl dX4_solved_167 ?_
        refine lv_iload_n hx hb dX4_solved_170 rfl (lv_at hl 3 rfl) ?_
        refine lv_dup2_11 hx hb dX4_solved_171 rfl rfl ?_
        refine va_iald hx hb hK hP 16 0 rfl rfl (vp_in_nI (show d < 6 by omega) (by decide)) dX4_solved_172 ?_
        rw [nI_clamp (show d < 2 ^ 31 by have := (show d < 6 by omega); omega)]
        refine lv_topi (fun y40 ey40 => ?_)
        obtain rfl : y40 = nI t := ey40.trans (htk)
        refine lv_iconst (v := 1) hx hb dX4_solved_173 (by decide) ?_
        refine lv_iadd hx hb dX4_solved_174 ?_
        refine lv_topi (fun y41 ey41 => ?_)
        obtain rfl : y41 = nI (t + 1) := ey41.trans (nI_1 t)
        refine va_iast hx hb hK hP hD hS 16 0 rfl rfl (vp_in_nI (show d < 6 by omega) (by decide)) dX4_solved_175 (fun H locs hP hD hS => ?_)
        rw [nI_clamp (show d < 2 ^ 31 by have := (show d < 6 by omega); omega)] at hP hD
        have hP : va_P (dC, dI) vwCl (mL AB cI cZ sc (va_up (va_up (va_up ar 19 ak) 20 (upd tk d (nI (t + 1)))) 21 sk)) H := hP
        have hD : va_D V (mL AB cI cZ sc (va_up (va_up (va_up ar 19 ak) 20 (upd tk d (nI (t + 1)))) 21 sk)) := hD
        refine lv_goto (tgt := 136) hx hb dX4_solved_176 (by decide) ?_
        exact hG ls H locs ⟨hP, hD, hS, lv_sub hl [0, 1, 2, 3, 4] rfl⟩
  · intro d t an ak tk sk hdn ht8 htk hus hG ls H locs hI
    obtain ⟨hP, hD, hS, hl⟩ := hI
    have hl : lv_has ls 5 [(0, .ref (AB 0)), (1, .int b), (2, .int (nI n)), (3, .int (nI d)), (4, .int an)] := hl
    have hP : va_P (dC, dI) vwCl (mL AB cI cZ sc (va_up (va_up (va_up ar 19 ak) 20 tk) 21 sk)) H := hP
    have hD : va_D V (mL AB cI cZ sc (va_up (va_up (va_up ar 19 ak) 20 tk) 21 sk)) := hD
    refine lv_aload_n hx hb dX4_solved_136 rfl (lv_at hl 0 rfl) ?_
    refine va_get (D := (dC, dI)) (ci := 4) (v := .ref (AB 20)) (C := RX4) (T := TX4) (N := 33) hx hb hts hinX4 hown hK hP 0 rfl rfl 20 (by decide) (hts _ (List.mem_of_getElem? (i := 2) rfl)) (fun _ h9 => h9) rfl dX4_solved_137 ?_
    refine lv_iload_n hx hb dX4_solved_140 rfl (lv_at hl 3 rfl) ?_
    refine va_iald hx hb hK hP 16 0 rfl rfl (vp_in_nI (show d < 6 by omega) (by decide)) dX4_solved_141 ?_
    rw [nI_clamp (show d < 2 ^ 31 by have := (show d < 6 by omega); omega)]
    refine lv_topi (fun y42 ey42 => ?_)
    obtain rfl : y42 = nI t := ey42.trans (htk)
    refine lv_bipush (v := 8) hx hb dX4_solved_142 (by decide) ?_
    refine lv_icmp_ge (tgt := 179) hx hb dX4_solved_144 (by decide) (fun c144_43 => ?_) (fun c144_43 => ?_)
    · exact absurd c144_43 (Int32.not_le.mpr (nI_lt (a := t) (b := 8) ht8 (by decide)))
    · skip
      refine lv_aload_n hx hb dX4_solved_147 rfl (lv_at hl 0 rfl) ?_
      refine lv_aload_n hx hb dX4_solved_148 rfl (lv_at hl 0 rfl) ?_
      refine va_get (D := (dC, dI)) (ci := 4) (v := .ref (AB 20)) (C := RX4) (T := TX4) (N := 33) hx hb hts hinX4 hown hK hP 0 rfl rfl 20 (by decide) (hts _ (List.mem_of_getElem? (i := 2) rfl)) (fun _ h9 => h9) rfl dX4_solved_149 ?_
      refine lv_iload_n hx hb dX4_solved_152 rfl (lv_at hl 3 rfl) ?_
      refine va_iald hx hb hK hP 16 0 rfl rfl (vp_in_nI (show d < 6 by omega) (by decide)) dX4_solved_153 ?_
      rw [nI_clamp (show d < 2 ^ 31 by have := (show d < 6 by omega); omega)]
      refine lv_topi (fun y44 ey44 => ?_)
      obtain rfl : y44 = nI t := ey44.trans (htk)
      refine lv_aload_n hx hb dX4_solved_154 rfl (lv_at hl 0 rfl) ?_
      refine va_get (D := (dC, dI)) (ci := 4) (v := .ref (AB 19)) (C := RX4) (T := TX4) (N := 33) hx hb hts hinX4 hown hK hP 0 rfl rfl 19 (by decide) (hts _ (List.mem_of_getElem? (i := 1) rfl)) (fun _ h9 => h9) rfl dX4_solved_155 ?_
      refine lv_iload_n hx hb dX4_solved_158 rfl (lv_at hl 3 rfl) ?_
      refine va_iald hx hb hK hP 15 0 rfl rfl (vp_in_nI (show d < 6 by omega) (by decide)) dX4_solved_159 ?_
      rw [nI_clamp (show d < 2 ^ 31 by have := (show d < 6 by omega); omega)]
      refine vp_callSi (W.runV (As := [.int (nI t), .int (ak d)]) (rest := []) ⟨hx, hb, hml, hown, hts⟩ (m_usable l dC dI AB cI cZ (sc, va_up (va_up (va_up ar 19 ak) 20 tk) 21 sk) th ht8 ((frz_up (frz_up (frz_up frz.rf (by decide)) (by decide)) (by decide)).mok hM _ ht8).1 (ak d)) (cwV 2 hts gX4_solved_X4_usable rfl rfl rfl (by decide +kernel) ⟨Nat.le_of_ble_eq_true rfl, Nat.le_of_ble_eq_true rfl⟩) ⟨bm_P, va_recv hK hP (ci := 4) (q0 := 0) rfl rfl, fun U hU hW => ⟨rfl, by rw [hU]; exact hP, va_K.moved hW.alike hK⟩⟩ rfl rfl hl.1 rfl (lv_room (Nat.le_of_ble_eq_true rfl)) dX4_solved_160 ⟨Nat.zero_le _, Nat.zero_le _⟩) (fun r er => ?_)
      obtain rfl : r = b2i (usR th (sc, ar) t (ak d)) := er.trans (by rw [(frz_up (frz_up (frz_up frz.rf (by decide)) (by decide)) (by decide)).us])
      refine lv_if_ne (tgt := 179) hx hb dX4_solved_163 (by decide) (fun c163_45 => ?_) (fun c163_45 => ?_)
      · skip
        exact hG ls H locs ⟨hP, hD, hS, lv_sub hl [0, 1, 2, 3, 4] rfl⟩
      · exact absurd hus (by rw [b2i_0.mp c163_45]; decide)
  · intro d an ak tk sk hdn htk hG ls H locs hI
    obtain ⟨hP, hD, hS, hl⟩ := hI
    have hl : lv_has ls 5 [(0, .ref (AB 0)), (1, .int b), (2, .int (nI n)), (3, .int (nI d)), (4, .int an)] := hl
    have hP : va_P (dC, dI) vwCl (mL AB cI cZ sc (va_up (va_up (va_up ar 19 ak) 20 tk) 21 sk)) H := hP
    have hD : va_D V (mL AB cI cZ sc (va_up (va_up (va_up ar 19 ak) 20 tk) 21 sk)) := hD
    refine lv_aload_n hx hb dX4_solved_136 rfl (lv_at hl 0 rfl) ?_
    refine va_get (D := (dC, dI)) (ci := 4) (v := .ref (AB 20)) (C := RX4) (T := TX4) (N := 33) hx hb hts hinX4 hown hK hP 0 rfl rfl 20 (by decide) (hts _ (List.mem_of_getElem? (i := 2) rfl)) (fun _ h9 => h9) rfl dX4_solved_137 ?_
    refine lv_iload_n hx hb dX4_solved_140 rfl (lv_at hl 3 rfl) ?_
    refine va_iald hx hb hK hP 16 0 rfl rfl (vp_in_nI (show d < 6 by omega) (by decide)) dX4_solved_141 ?_
    rw [nI_clamp (show d < 2 ^ 31 by have := (show d < 6 by omega); omega)]
    refine lv_topi (fun y46 ey46 => ?_)
    obtain rfl : y46 = nI 8 := ey46.trans (htk)
    refine lv_bipush (v := 8) hx hb dX4_solved_142 (by decide) ?_
    refine lv_icmp_ge (tgt := 179) hx hb dX4_solved_144 (by decide) (fun c144_47 => ?_) (fun c144_47 => ?_)
    · skip
      refine lv_aload_n hx hb dX4_solved_179 rfl (lv_at hl 0 rfl) ?_
      refine va_get (D := (dC, dI)) (ci := 4) (v := .ref (AB 20)) (C := RX4) (T := TX4) (N := 33) hx hb hts hinX4 hown hK hP 0 rfl rfl 20 (by decide) (hts _ (List.mem_of_getElem? (i := 2) rfl)) (fun _ h9 => h9) rfl dX4_solved_180 ?_
      refine lv_iload_n hx hb dX4_solved_183 rfl (lv_at hl 3 rfl) ?_
      refine va_iald hx hb hK hP 16 0 rfl rfl (vp_in_nI (show d < 6 by omega) (by decide)) dX4_solved_184 ?_
      rw [nI_clamp (show d < 2 ^ 31 by have := (show d < 6 by omega); omega)]
      refine lv_topi (fun y48 ey48 => ?_)
      obtain rfl : y48 = nI 8 := ey48.trans (htk)
      refine lv_bipush (v := 8) hx hb dX4_solved_185 (by decide) ?_
      refine lv_icmp_ne (tgt := 194) hx hb dX4_solved_187 (by decide) (fun c187_49 => ?_) (fun c187_49 => ?_)
      · exact absurd rfl c187_49
      · skip
        refine lv_iconst (v := 2) hx hb dX4_solved_190 (by decide) ?_
        refine lv_goto (tgt := 195) hx hb dX4_solved_191 (by decide) ?_
        refine lv_istore (lv' := [(4, .int 2), (0, .ref (AB 0)), (1, .int b), (2, .int (nI n)), (3, .int (nI d))]) hx hb dX4_solved_195 hl (by decide) rfl (fun ls hl => ?_)
        refine lv_iload hx hb dX4_solved_197 (lv_at hl 0 rfl) ?_
        refine lv_iconst (v := 2) hx hb dX4_solved_199 (by decide) ?_
        refine lv_icmp_ne (tgt := 209) hx hb dX4_solved_200 (by decide) (fun c200_50 => ?_) (fun c200_50 => ?_)
        · exact absurd rfl c200_50
        · skip
          obtain ⟨y51, ey51⟩ : ∃ y : Int32, y = (nI d) + (-1) := ⟨_, rfl⟩
          refine lv_iinc (v := y51) (lv' := [(3, .int y51), (4, .int 2), (0, .ref (AB 0)), (1, .int b), (2, .int (nI n))]) hx hb dX4_solved_203 hl (k := 4) rfl (by rw [ey51]; rfl) (by decide) rfl (fun ls hl => ?_)
          obtain rfl : y51 = dpt d := ey51.trans (dpt_a d)
          refine lv_goto (tgt := 19) hx hb dX4_solved_206 (by decide) ?_
          exact hG ls H locs ⟨hP, hD, hS, lv_sub hl [2, 3, 4, 0, 1] rfl⟩
    · exact absurd (by decide) c144_47
  · intro d t an ak tk sk hdn ht8 htk hpt hG ls H locs hI
    obtain ⟨hP, hD, hS, hl⟩ := hI
    have hl : lv_has ls 5 [(0, .ref (AB 0)), (1, .int b), (2, .int (nI n)), (3, .int (nI d)), (4, .int an)] := hl
    have hP : va_P (dC, dI) vwCl (mL AB cI cZ sc (va_up (va_up (va_up ar 19 ak) 20 tk) 21 sk)) H := hP
    have hD : va_D V (mL AB cI cZ sc (va_up (va_up (va_up ar 19 ak) 20 tk) 21 sk)) := hD
    refine lv_aload_n hx hb dX4_solved_179 rfl (lv_at hl 0 rfl) ?_
    refine va_get (D := (dC, dI)) (ci := 4) (v := .ref (AB 20)) (C := RX4) (T := TX4) (N := 33) hx hb hts hinX4 hown hK hP 0 rfl rfl 20 (by decide) (hts _ (List.mem_of_getElem? (i := 2) rfl)) (fun _ h9 => h9) rfl dX4_solved_180 ?_
    refine lv_iload_n hx hb dX4_solved_183 rfl (lv_at hl 3 rfl) ?_
    refine va_iald hx hb hK hP 16 0 rfl rfl (vp_in_nI (show d < 6 by omega) (by decide)) dX4_solved_184 ?_
    rw [nI_clamp (show d < 2 ^ 31 by have := (show d < 6 by omega); omega)]
    refine lv_topi (fun y52 ey52 => ?_)
    obtain rfl : y52 = nI t := ey52.trans (htk)
    refine lv_bipush (v := 8) hx hb dX4_solved_185 (by decide) ?_
    refine lv_icmp_ne (tgt := 194) hx hb dX4_solved_187 (by decide) (fun c187_53 => ?_) (fun c187_53 => ?_)
    · skip
      refine lv_iconst (v := 0) hx hb dX4_solved_194 (by decide) ?_
      refine lv_istore (lv' := [(4, .int 0), (0, .ref (AB 0)), (1, .int b), (2, .int (nI n)), (3, .int (nI d))]) hx hb dX4_solved_195 hl (by decide) rfl (fun ls hl => ?_)
      refine lv_iload hx hb dX4_solved_197 (lv_at hl 0 rfl) ?_
      refine lv_iconst (v := 2) hx hb dX4_solved_199 (by decide) ?_
      refine lv_icmp_ne (tgt := 209) hx hb dX4_solved_200 (by decide) (fun c200_54 => ?_) (fun c200_54 => ?_)
      · skip
        refine lv_aload_n hx hb dX4_solved_209 rfl (lv_at hl 1 rfl) ?_
        refine lv_aload_n hx hb dX4_solved_210 rfl (lv_at hl 1 rfl) ?_
        refine va_get (D := (dC, dI)) (ci := 4) (v := .ref (AB 20)) (C := RX4) (T := TX4) (N := 33) hx hb hts hinX4 hown hK hP 0 rfl rfl 20 (by decide) (hts _ (List.mem_of_getElem? (i := 2) rfl)) (fun _ h9 => h9) rfl dX4_solved_211 ?_
        refine lv_iload_n hx hb dX4_solved_214 rfl (lv_at hl 4 rfl) ?_
        refine va_iald hx hb hK hP 16 0 rfl rfl (vp_in_nI (show d < 6 by omega) (by decide)) dX4_solved_215 ?_
        rw [nI_clamp (show d < 2 ^ 31 by have := (show d < 6 by omega); omega)]
        refine lv_topi (fun y55 ey55 => ?_)
        obtain rfl : y55 = nI t := ey55.trans (htk)
        refine lv_aload_n hx hb dX4_solved_216 rfl (lv_at hl 1 rfl) ?_
        refine va_get (D := (dC, dI)) (ci := 4) (v := .ref (AB 19)) (C := RX4) (T := TX4) (N := 33) hx hb hts hinX4 hown hK hP 0 rfl rfl 19 (by decide) (hts _ (List.mem_of_getElem? (i := 1) rfl)) (fun _ h9 => h9) rfl dX4_solved_217 ?_
        refine lv_iload_n hx hb dX4_solved_220 rfl (lv_at hl 4 rfl) ?_
        refine va_iald hx hb hK hP 15 0 rfl rfl (vp_in_nI (show d < 6 by omega) (by decide)) dX4_solved_221 ?_
        rw [nI_clamp (show d < 2 ^ 31 by have := (show d < 6 by omega); omega)]
        refine lv_aload_n hx hb dX4_solved_222 rfl (lv_at hl 1 rfl) ?_
        refine va_get (D := (dC, dI)) (ci := 4) (v := .ref (AB 21)) (C := RX4) (T := TX4) (N := 33) hx hb hts hinX4 hown hK hP 0 rfl rfl 21 (by decide) (hts _ (List.mem_of_getElem? (i := 3) rfl)) (fun _ h9 => h9) rfl dX4_solved_223 ?_
        refine lv_iload_n hx hb dX4_solved_226 rfl (lv_at hl 4 rfl) ?_
        refine va_iald hx hb hK hP 17 0 rfl rfl (vp_in_nI (show d < 6 by omega) (by decide)) dX4_solved_227 ?_
        rw [nI_clamp (show d < 2 ^ 31 by have := (show d < 6 by omega); omega)]
        refine vp_callSi (W.runV (As := [.int (nI t), .int (ak d), .int (sk d)]) (rest := []) ⟨hx, hb, hml, hown, hts⟩ (m_part l dC dI AB cI cZ (sc, va_up (va_up (va_up ar 19 ak) 20 tk) 21 sk) ef ht8 ((frz_up (frz_up (frz_up frz.rf (by decide)) (by decide)) (by decide)).mok hM _ ht8).2.1 (hM _ ht8).2.2 (ak d) (sk d)) (cwV 3 hts gX4_solved_X4_part rfl rfl rfl (by decide +kernel) ⟨Nat.le_of_ble_eq_true rfl, Nat.le_of_ble_eq_true rfl⟩) ⟨bm_P, va_recv hK hP (ci := 4) (q0 := 0) rfl rfl, fun U hU hW => ⟨rfl, by rw [hU]; exact hP, va_K.moved hW.alike hK⟩⟩ rfl rfl hl.1 rfl (lv_room (Nat.le_of_ble_eq_true rfl)) dX4_solved_228 ⟨Nat.zero_le _, Nat.zero_le _⟩) (fun r er => ?_)
        obtain rfl : r = ptR ef (sc, ar) t (ak d) (sk d) := er.trans (by rw [(frz_up (frz_up (frz_up frz.rf (by decide)) (by decide)) (by decide)).pt])
        refine lv_if_ne (tgt := 240) hx hb dX4_solved_231 (by decide) (fun c231_56 => ?_) (fun c231_56 => ?_)
        · exact absurd hpt c231_56
        · skip
          refine lv_iconst (v := 1) hx hb dX4_solved_234 (by decide) ?_
          refine lv_istore (lv' := [(4, .int 1), (0, .ref (AB 0)), (1, .int b), (2, .int (nI n)), (3, .int (nI d))]) hx hb dX4_solved_235 hl (by decide) rfl (fun ls hl => ?_)
          refine lv_goto (tgt := 19) hx hb dX4_solved_237 (by decide) ?_
          exact hG ls H locs ⟨hP, hD, hS, lv_sub hl [1, 2, 3, 4, 0] rfl⟩
      · exact absurd c200_54 (by decide)
    · exact absurd (nI_inj (a := t) (b := 8) (by omega) (by decide) c187_53) (by omega)
  · intro d t an ak tk sk hdn ht8 htk hpt hG ls H locs hI
    obtain ⟨hP, hD, hS, hl⟩ := hI
    have hl : lv_has ls 5 [(0, .ref (AB 0)), (1, .int b), (2, .int (nI n)), (3, .int (nI d)), (4, .int an)] := hl
    have hP : va_P (dC, dI) vwCl (mL AB cI cZ sc (va_up (va_up (va_up ar 19 ak) 20 tk) 21 sk)) H := hP
    have hD : va_D V (mL AB cI cZ sc (va_up (va_up (va_up ar 19 ak) 20 tk) 21 sk)) := hD
    refine lv_aload_n hx hb dX4_solved_179 rfl (lv_at hl 0 rfl) ?_
    refine va_get (D := (dC, dI)) (ci := 4) (v := .ref (AB 20)) (C := RX4) (T := TX4) (N := 33) hx hb hts hinX4 hown hK hP 0 rfl rfl 20 (by decide) (hts _ (List.mem_of_getElem? (i := 2) rfl)) (fun _ h9 => h9) rfl dX4_solved_180 ?_
    refine lv_iload_n hx hb dX4_solved_183 rfl (lv_at hl 3 rfl) ?_
    refine va_iald hx hb hK hP 16 0 rfl rfl (vp_in_nI (show d < 6 by omega) (by decide)) dX4_solved_184 ?_
    rw [nI_clamp (show d < 2 ^ 31 by have := (show d < 6 by omega); omega)]
    refine lv_topi (fun y57 ey57 => ?_)
    obtain rfl : y57 = nI t := ey57.trans (htk)
    refine lv_bipush (v := 8) hx hb dX4_solved_185 (by decide) ?_
    refine lv_icmp_ne (tgt := 194) hx hb dX4_solved_187 (by decide) (fun c187_58 => ?_) (fun c187_58 => ?_)
    · skip
      refine lv_iconst (v := 0) hx hb dX4_solved_194 (by decide) ?_
      refine lv_istore (lv' := [(4, .int 0), (0, .ref (AB 0)), (1, .int b), (2, .int (nI n)), (3, .int (nI d))]) hx hb dX4_solved_195 hl (by decide) rfl (fun ls hl => ?_)
      refine lv_iload hx hb dX4_solved_197 (lv_at hl 0 rfl) ?_
      refine lv_iconst (v := 2) hx hb dX4_solved_199 (by decide) ?_
      refine lv_icmp_ne (tgt := 209) hx hb dX4_solved_200 (by decide) (fun c200_59 => ?_) (fun c200_59 => ?_)
      · skip
        refine lv_aload_n hx hb dX4_solved_209 rfl (lv_at hl 1 rfl) ?_
        refine lv_aload_n hx hb dX4_solved_210 rfl (lv_at hl 1 rfl) ?_
        refine va_get (D := (dC, dI)) (ci := 4) (v := .ref (AB 20)) (C := RX4) (T := TX4) (N := 33) hx hb hts hinX4 hown hK hP 0 rfl rfl 20 (by decide) (hts _ (List.mem_of_getElem? (i := 2) rfl)) (fun _ h9 => h9) rfl dX4_solved_211 ?_
        refine lv_iload_n hx hb dX4_solved_214 rfl (lv_at hl 4 rfl) ?_
        refine va_iald hx hb hK hP 16 0 rfl rfl (vp_in_nI (show d < 6 by omega) (by decide)) dX4_solved_215 ?_
        rw [nI_clamp (show d < 2 ^ 31 by have := (show d < 6 by omega); omega)]
        refine lv_topi (fun y60 ey60 => ?_)
        obtain rfl : y60 = nI t := ey60.trans (htk)
        refine lv_aload_n hx hb dX4_solved_216 rfl (lv_at hl 1 rfl) ?_
        refine va_get (D := (dC, dI)) (ci := 4) (v := .ref (AB 19)) (C := RX4) (T := TX4) (N := 33) hx hb hts hinX4 hown hK hP 0 rfl rfl 19 (by decide) (hts _ (List.mem_of_getElem? (i := 1) rfl)) (fun _ h9 => h9) rfl dX4_solved_217 ?_
        refine lv_iload_n hx hb dX4_solved_220 rfl (lv_at hl 4 rfl) ?_
        refine va_iald hx hb hK hP 15 0 rfl rfl (vp_in_nI (show d < 6 by omega) (by decide)) dX4_solved_221 ?_
        rw [nI_clamp (show d < 2 ^ 31 by have := (show d < 6 by omega); omega)]
        refine lv_aload_n hx hb dX4_solved_222 rfl (lv_at hl 1 rfl) ?_
        refine va_get (D := (dC, dI)) (ci := 4) (v := .ref (AB 21)) (C := RX4) (T := TX4) (N := 33) hx hb hts hinX4 hown hK hP 0 rfl rfl 21 (by decide) (hts _ (List.mem_of_getElem? (i := 3) rfl)) (fun _ h9 => h9) rfl dX4_solved_223 ?_
        refine lv_iload_n hx hb dX4_solved_226 rfl (lv_at hl 4 rfl) ?_
        refine va_iald hx hb hK hP 17 0 rfl rfl (vp_in_nI (show d < 6 by omega) (by decide)) dX4_solved_227 ?_
        rw [nI_clamp (show d < 2 ^ 31 by have := (show d < 6 by omega); omega)]
        refine vp_callSi (W.runV (As := [.int (nI t), .int (ak d), .int (sk d)]) (rest := []) ⟨hx, hb, hml, hown, hts⟩ (m_part l dC dI AB cI cZ (sc, va_up (va_up (va_up ar 19 ak) 20 tk) 21 sk) ef ht8 ((frz_up (frz_up (frz_up frz.rf (by decide)) (by decide)) (by decide)).mok hM _ ht8).2.1 (hM _ ht8).2.2 (ak d) (sk d)) (cwV 3 hts gX4_solved_X4_part rfl rfl rfl (by decide +kernel) ⟨Nat.le_of_ble_eq_true rfl, Nat.le_of_ble_eq_true rfl⟩) ⟨bm_P, va_recv hK hP (ci := 4) (q0 := 0) rfl rfl, fun U hU hW => ⟨rfl, by rw [hU]; exact hP, va_K.moved hW.alike hK⟩⟩ rfl rfl hl.1 rfl (lv_room (Nat.le_of_ble_eq_true rfl)) dX4_solved_228 ⟨Nat.zero_le _, Nat.zero_le _⟩) (fun r er => ?_)
        obtain rfl : r = ptR ef (sc, ar) t (ak d) (sk d) := er.trans (by rw [(frz_up (frz_up (frz_up frz.rf (by decide)) (by decide)) (by decide)).pt])
        refine lv_if_ne (tgt := 240) hx hb dX4_solved_231 (by decide) (fun c231_61 => ?_) (fun c231_61 => ?_)
        · skip
          refine lv_aload_n hx hb dX4_solved_240 rfl (lv_at hl 1 rfl) ?_
          refine va_get (D := (dC, dI)) (ci := 4) (v := .ref (AB 19)) (C := RX4) (T := TX4) (N := 33) hx hb hts hinX4 hown hK hP 0 rfl rfl 19 (by decide) (hts _ (List.mem_of_getElem? (i := 1) rfl)) (fun _ h9 => h9) rfl dX4_solved_241 ?_
          refine lv_iload_n hx hb dX4_solved_244 rfl (lv_at hl 4 rfl) ?_
          refine lv_iconst (v := 1) hx hb dX4_solved_245 (by decide) ?_
          refine lv_iadd hx hb dX4_solved_246 ?_
          refine lv_topi (fun y62 ey62 => ?_)
          obtain rfl : y62 = nI (d + 1) := ey62.trans (nI_1 d)
          refine lv_aload_n hx hb dX4_solved_247 rfl (lv_at hl 1 rfl) ?_
          refine lv_aload_n hx hb dX4_solved_248 rfl (lv_at hl 1 rfl) ?_
          refine va_get (D := (dC, dI)) (ci := 4) (v := .ref (AB 20)) (C := RX4) (T := TX4) (N := 33) hx hb hts hinX4 hown hK hP 0 rfl rfl 20 (by decide) (hts _ (List.mem_of_getElem? (i := 2) rfl)) (fun _ h9 => h9) rfl dX4_solved_249 ?_
          refine lv_iload_n hx hb dX4_solved_252 rfl (lv_at hl 4 rfl) ?_
          refine va_iald hx hb hK hP 16 0 rfl rfl (vp_in_nI (show d < 6 by omega) (by decide)) dX4_solved_253 ?_
          rw [nI_clamp (show d < 2 ^ 31 by have := (show d < 6 by omega); omega)]
          refine lv_topi (fun y63 ey63 => ?_)
          obtain rfl : y63 = nI t := ey63.trans (htk)
          refine lv_aload_n hx hb dX4_solved_254 rfl (lv_at hl 1 rfl) ?_
          refine va_get (D := (dC, dI)) (ci := 4) (v := .ref (AB 19)) (C := RX4) (T := TX4) (N := 33) hx hb hts hinX4 hown hK hP 0 rfl rfl 19 (by decide) (hts _ (List.mem_of_getElem? (i := 1) rfl)) (fun _ h9 => h9) rfl dX4_solved_255 ?_
          refine lv_iload_n hx hb dX4_solved_258 rfl (lv_at hl 4 rfl) ?_
          refine va_iald hx hb hK hP 15 0 rfl rfl (vp_in_nI (show d < 6 by omega) (by decide)) dX4_solved_259 ?_
          rw [nI_clamp (show d < 2 ^ 31 by have := (show d < 6 by omega); omega)]
          refine lv_aload_n hx hb dX4_solved_260 rfl (lv_at hl 1 rfl) ?_
          refine va_get (D := (dC, dI)) (ci := 4) (v := .ref (AB 21)) (C := RX4) (T := TX4) (N := 33) hx hb hts hinX4 hown hK hP 0 rfl rfl 21 (by decide) (hts _ (List.mem_of_getElem? (i := 3) rfl)) (fun _ h9 => h9) rfl dX4_solved_261 ?_
          refine lv_iload_n hx hb dX4_solved_264 rfl (lv_at hl 4 rfl) ?_
          refine va_iald hx hb hK hP 17 0 rfl rfl (vp_in_nI (show d < 6 by omega) (by decide)) dX4_solved_265 ?_
          rw [nI_clamp (show d < 2 ^ 31 by have := (show d < 6 by omega); omega)]
          refine vp_callSi (W.runV (As := [.int (nI t), .int (ak d), .int (sk d)]) (rest := [.int (nI (d + 1)), .ref (AB 19)]) ⟨hx, hb, hml, hown, hts⟩ (m_part l dC dI AB cI cZ (sc, va_up (va_up (va_up ar 19 ak) 20 tk) 21 sk) ef ht8 ((frz_up (frz_up (frz_up frz.rf (by decide)) (by decide)) (by decide)).mok hM _ ht8).2.1 (hM _ ht8).2.2 (ak d) (sk d)) (cwV 3 hts gX4_solved_X4_part rfl rfl rfl (by decide +kernel) ⟨Nat.le_of_ble_eq_true rfl, Nat.le_of_ble_eq_true rfl⟩) ⟨bm_P, va_recv hK hP (ci := 4) (q0 := 0) rfl rfl, fun U hU hW => ⟨rfl, by rw [hU]; exact hP, va_K.moved hW.alike hK⟩⟩ rfl rfl hl.1 rfl (lv_room (Nat.le_of_ble_eq_true rfl)) dX4_solved_266 ⟨Nat.zero_le _, Nat.zero_le _⟩) (fun r er => ?_)
          obtain rfl : r = ptR ef (sc, ar) t (ak d) (sk d) := er.trans (by rw [(frz_up (frz_up (frz_up frz.rf (by decide)) (by decide)) (by decide)).pt])
          refine va_iast hx hb hK hP hD hS 15 0 rfl rfl (vp_in_nI (show (d + 1) < 6 by omega) (by decide)) dX4_solved_269 (fun H locs hP hD hS => ?_)
          rw [nI_clamp (show (d + 1) < 2 ^ 31 by have := (show (d + 1) < 6 by omega); omega)] at hP hD
          have hP : va_P (dC, dI) vwCl (mL AB cI cZ sc (va_up (va_up (va_up ar 19 (upd ak (d + 1) (ptR ef (sc, ar) t (ak d) (sk d)))) 20 tk) 21 sk)) H := hP
          have hD : va_D V (mL AB cI cZ sc (va_up (va_up (va_up ar 19 (upd ak (d + 1) (ptR ef (sc, ar) t (ak d) (sk d)))) 20 tk) 21 sk)) := hD
          refine lv_aload_n hx hb dX4_solved_270 rfl (lv_at hl 1 rfl) ?_
          refine va_get (D := (dC, dI)) (ci := 4) (v := .ref (AB 20)) (C := RX4) (T := TX4) (N := 33) hx hb hts hinX4 hown hK hP 0 rfl rfl 20 (by decide) (hts _ (List.mem_of_getElem? (i := 2) rfl)) (fun _ h9 => h9) rfl dX4_solved_271 ?_
          refine lv_iload_n hx hb dX4_solved_274 rfl (lv_at hl 4 rfl) ?_
          refine lv_iconst (v := 1) hx hb dX4_solved_275 (by decide) ?_
          refine lv_iadd hx hb dX4_solved_276 ?_
          refine lv_topi (fun y64 ey64 => ?_)
          obtain rfl : y64 = nI (d + 1) := ey64.trans (nI_1 d)
          refine lv_iconst (v := (-1)) hx hb dX4_solved_277 (by decide) ?_
          refine va_iast hx hb hK hP hD hS 16 0 rfl rfl (vp_in_nI (show (d + 1) < 6 by omega) (by decide)) dX4_solved_278 (fun H locs hP hD hS => ?_)
          rw [nI_clamp (show (d + 1) < 2 ^ 31 by have := (show (d + 1) < 6 by omega); omega)] at hP hD
          have hP : va_P (dC, dI) vwCl (mL AB cI cZ sc (va_up (va_up (va_up ar 19 (upd ak (d + 1) (ptR ef (sc, ar) t (ak d) (sk d)))) 20 (upd tk (d + 1) (-1))) 21 sk)) H := hP
          have hD : va_D V (mL AB cI cZ sc (va_up (va_up (va_up ar 19 (upd ak (d + 1) (ptR ef (sc, ar) t (ak d) (sk d)))) 20 (upd tk (d + 1) (-1))) 21 sk)) := hD
          obtain ⟨y65, ey65⟩ : ∃ y : Int32, y = (nI d) + 1 := ⟨_, rfl⟩
          refine lv_iinc (v := y65) (lv' := [(3, .int y65), (4, .int 0), (0, .ref (AB 0)), (1, .int b), (2, .int (nI n))]) hx hb dX4_solved_279 hl (k := 4) rfl (by rw [ey65]; rfl) (by decide) rfl (fun ls hl => ?_)
          obtain rfl : y65 = nI (d + 1) := ey65.trans (nI_1 d)
          refine lv_goto (tgt := 19) hx hb dX4_solved_282 (by decide) ?_
          exact hG ls H locs ⟨hP, hD, hS, lv_sub hl [2, 3, 4, 0, 1] rfl⟩
        · exact absurd c231_61 hpt
      · exact absurd c200_59 (by decide)
    · exact absurd (nI_inj (a := t) (b := 8) (by omega) (by decide) c187_58) (by omega)
  · intro hG ak tk sk ls H locs hI
    rw [upd_eq] at hG
    obtain ⟨hP, hD, hS, hl⟩ := hI
    have hl : lv_has ls 5 [(0, .ref (AB 0)), (1, .int b), (2, .int (nI n)), (3, .int (dpt 0)), (4, .int 1)] := hl
    have hP : va_P (dC, dI) vwCl (mL AB cI cZ sc (va_up (va_up (va_up ar 19 ak) 20 tk) 21 sk)) H := hP
    have hD : va_D V (mL AB cI cZ sc (va_up (va_up (va_up ar 19 ak) 20 tk) 21 sk)) := hD
    refine lv_iload_n hx hb dX4_solved_19 rfl (lv_at hl 3 rfl) ?_
    refine lv_if_lt (tgt := 285) hx hb dX4_solved_20 (by decide) (fun c20_66 => ?_) (fun c20_66 => ?_)
    · skip
      refine lv_iload hx hb dX4_solved_285 (lv_at hl 4 rfl) ?_
      refine lv_iconst (v := 1) hx hb dX4_solved_287 (by decide) ?_
      refine lv_icmp_ne (tgt := 295) hx hb dX4_solved_288 (by decide) (fun c288_67 => ?_) (fun c288_67 => ?_)
      · exact absurd rfl c288_67
      · skip
        refine lv_iconst (v := 1) hx hb dX4_solved_291 (by decide) ?_
        refine lv_goto (tgt := 296) hx hb dX4_solved_292 (by decide) ?_
        exact W.zret hx hb hr rfl (fun t ht hW => ⟨⟨_, (sc, va_up (va_up (va_up ar 19 ak) 20 tk) 21 sk), rfl, ⟨by show _ = b2i (slv (usR th (sc, ar)) (ptR ef (sc, ar)) (reR (sc, ar)) n b); rw [hG]; rfl, ak, tk, sk, rfl⟩, by rw [ht]; exact hP, hD⟩, hS.F ht⟩) hS.2.2 dX4_solved_296
    · exact absurd (show dpt 0 < 0 by decide) c20_66
  · intro hG ak tk sk ls H locs hI
    rw [upd_eq] at hG
    obtain ⟨hP, hD, hS, hl⟩ := hI
    have hl : lv_has ls 5 [(0, .ref (AB 0)), (1, .int b), (2, .int (nI n)), (3, .int (dpt 0)), (4, .int 2)] := hl
    have hP : va_P (dC, dI) vwCl (mL AB cI cZ sc (va_up (va_up (va_up ar 19 ak) 20 tk) 21 sk)) H := hP
    have hD : va_D V (mL AB cI cZ sc (va_up (va_up (va_up ar 19 ak) 20 tk) 21 sk)) := hD
    refine lv_iload_n hx hb dX4_solved_19 rfl (lv_at hl 3 rfl) ?_
    refine lv_if_lt (tgt := 285) hx hb dX4_solved_20 (by decide) (fun c20_68 => ?_) (fun c20_68 => ?_)
    · skip
      refine lv_iload hx hb dX4_solved_285 (lv_at hl 4 rfl) ?_
      refine lv_iconst (v := 1) hx hb dX4_solved_287 (by decide) ?_
      refine lv_icmp_ne (tgt := 295) hx hb dX4_solved_288 (by decide) (fun c288_69 => ?_) (fun c288_69 => ?_)
      · skip
        refine lv_iconst (v := 0) hx hb dX4_solved_295 (by decide) ?_
        exact W.zret hx hb hr rfl (fun t ht hW => ⟨⟨_, (sc, va_up (va_up (va_up ar 19 ak) 20 tk) 21 sk), rfl, ⟨by show _ = b2i (slv (usR th (sc, ar)) (ptR ef (sc, ar)) (reR (sc, ar)) n b); rw [hG]; rfl, ak, tk, sk, rfl⟩, by rw [ht]; exact hP, hD⟩, hS.F ht⟩) hS.2.2 dX4_solved_296
      · exact absurd c288_69 (by decide)
    · exact absurd (show dpt 0 < 0 by decide) c20_68
