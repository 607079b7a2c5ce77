def rsK (bel dos nm : Nat → Int32) (sam : Nat → Nat) (K : List Nat) (w i : Nat) : Int32 := match K[i]? with
  | none => 0
  | some k => if dos k < 0 ∨ bel (2 * k + w) = 0 then -1 else nm (sam (2 * k + w))
theorem rsK_no {bel dos nm : Nat → Int32} {sam : Nat → Nat} {K : List Nat} {w i k : Nat} (h : K[i]? = some k) (h2 : dos k < 0 ∨ bel (2 * k + w) = 0) : (-1 : Int32) = rsK bel dos nm sam K w i := by unfold rsK; rw [h]; exact (if_pos h2).symm
theorem rsK_at {bel dos nm : Nat → Int32} {sam : Nat → Nat} {K : List Nat} {w i k : Nat} (h : K[i]? = some k) (h1 : ¬ dos k < 0) (h2 : ¬ bel (2 * k + w) = 0) : nm (sam (2 * k + w)) = rsK bel dos nm sam K w i := by unfold rsK; rw [h]; exact (if_neg (fun z => z.elim h1 h2)).symm
theorem nI_len0 {S : List Nat} (h31 : S.length < 2 ^ 31) (h : nI S.length ≤ 0) : S = [] := by
  have := (nI_leI (b := 0) h31 (by decide)).mp h
  exact List.eq_nil_of_length_eq_zero (by omega)
theorem nI_len1 {S : List Nat} (h : ¬ nI S.length ≤ 0) : ∃ k S', S = k :: S' := by
  cases S with
  | nil => exact absurd (by decide) h
  | cons k S => exact ⟨k, S, rfl⟩
set_option maxHeartbeats 4000000 in
set_option maxRecDepth 100000 in
/-- number -/
theorem m_number (l : Launch) (dC : Nat → ClassId) (dI : Nat → Nat → Nat) (AB : Nat → Nat) (cI cZ : ClassId) (τ : MS) (sz : Nat) (sam : Nat → Nat) (hsam : ∀ k, 1 ≤ k → k < 32 → 0 < τ.2 22 k → τ.2 24 k = nI (sam k) ∧ 1 ≤ sam k ∧ sam k < 32) (hdos : ∀ k, 1 ≤ k → k < 32 → 0 < τ.2 22 k → 0 ≤ τ.2 23 k → k < 16) (hpos : ∀ k, 1 ≤ k → k < 32 → ¬ τ.2 22 k = 0 → 0 < τ.2 22 k) (hnm : ∀ c, 1 ≤ c → c < 32 → τ.2 25 c = -1) :
  Met l yX4_number wsX4_number ({ frames := 0, cells := 0, slots := 0, locals := 0 }) (va_Pc [.ref (AB 0)] (mF dC dI AB cI cZ sz τ)) (va_Qv (fun (τ2 : MS) => ∃ na nf ns nm wk : Nat → Int32, τ2 = (va_up τ.1 15 (nI (nrun (τ.2 22) (τ.2 23) sam 31 [1] []).length), va_up (va_up (va_up (va_up (va_up τ.2 16 na) 17 nf) 18 ns) 25 nm) 26 wk) ∧ (nrun (τ.2 22) (τ.2 23) sam 31 [1] []).length ≤ 31 ∧ ∀ i k, (nrun (τ.2 22) (τ.2 23) sam 31 [1] [])[i]? = some k → na i = τ.2 23 k ∧ nf i = (if τ.2 23 k < 0 ∨ τ.2 22 (2 * k) = 0 then -1 else nm (sam (2 * k))) ∧ ns i = (if τ.2 23 k < 0 ∨ τ.2 22 (2 * k + 1) = 0 then -1 else nm (sam (2 * k + 1))) ∧ nm (sam k) = nI i ∧ (1 ≤ k ∧ k < 32) ∧ 0 < τ.2 22 k) (mB dC dI AB cI cZ (va_A (mW AB cI cZ τ) sz)) (va_A (mW AB cI cZ τ) sz)) 0 0 (va_A (mW AB cI cZ τ) sz) := by
  obtain ⟨sc, ar⟩ := τ
  refine Met.ofW (cc := cX4_number) (maxL := 5) (ret := none) (by decide) rfl ?_
  intro p e s m args below meth c s₁ B hml hv
  obtain ⟨rfl, hsz, hP, hK, hD0⟩ := hv
  have hx := B.exec
  have hb := B.bytes
  have hr := B.returns
  have hts := atoms_spec (ws := wsX4_number) B.pre
  have hown : s.vm.findClass RX4 = some m.cls := findClass_of_methodNamed B.named
  have hlocks := B.notSynchronized
  have hinX4 : ∀ w ∈ wsX40, w ∈ wsX4_number := fun _ h => List.mem_cons_of_mem _ (List.mem_append_right _ h)
  subst hsz
  have hD := hD0.self (sz := s.heap.size)
  generalize hAe : va_A (mW AB cI cZ _) s.heap.size = V at hD ⊢
  have hA : ∀ q : Nat, s.heap.size ≤ q → V q := fun q h => by rw [← hAe]; exact Or.inr h
  have hS : va_S V s.heap s.heap [] := va_S.rf
  have hl := lv_entry ([.ref (AB 0)]) (n := 5) (Nat.le_of_ble_eq_true rfl)
  rw [lg_entry_eq]
  generalize (lg_sl ([.ref (AB 0)]) ++ List.replicate (5 - (lg_sl ([.ref (AB 0)])).length) Slot.unset).toArray = ls at hl ⊢
  have hl : lv_has ls 5 [(0, .ref (AB 0))] := hl
  have hP : va_P (dC, dI) vwCl (mL AB cI cZ sc ar) s.heap := hP
  have hD : va_D V (mL AB cI cZ sc ar) := hD
  have hsam : ∀ k, 1 ≤ k → k < 32 → 0 < ar 22 k → ar 24 k = nI (sam k) ∧ 1 ≤ sam k ∧ sam k < 32 := hsam
  refine lv_aload_n hx hb dX4_number_0 rfl (lv_at hl 0 rfl) ?_
  refine lv_iconst (v := 0) hx hb dX4_number_1 (by decide) ?_
  refine va_put (D := (dC, dI)) (ci := 4) (v := .int 0) (ty := .int) (C := RX4) (T := TX4) (N := 33) hx hb hts hinX4 tyX4 tyX4_ok nmX4 hown hK hP hD hS 0 rfl rfl 15 (by decide) (hts _ (List.mem_of_getElem? (i := 1) rfl)) (fun _ h9 => h9) rfl (by decide +kernel) rfl rfl (Nat.le_of_ble_eq_true rfl) dX4_number_2 (fun H locs hP hD hS => ?_)
  have hP : va_P (dC, dI) vwCl (mL AB cI cZ (va_up sc 15 0) ar) H := hP
  have hD : va_D V (mL AB cI cZ (va_up sc 15 0) ar) := hD
  refine lv_iconst (v := 1) hx hb dX4_number_5 (by decide) ?_
  refine lv_istore_n (lv' := [(1, .int 1), (0, .ref (AB 0))]) hx hb dX4_number_6 rfl hl (by decide) rfl (fun ls hl => ?_)
  refine lv_aload_n hx hb dX4_number_7 rfl (lv_at hl 1 rfl) ?_
  refine va_get (D := (dC, dI)) (ci := 4) (v := .ref (AB 26)) (C := RX4) (T := TX4) (N := 33) hx hb hts hinX4 hown hK hP 0 rfl rfl 26 (by decide) (hts _ (List.mem_of_getElem? (i := 2) rfl)) (fun _ h9 => h9) rfl dX4_number_8 ?_
  refine lv_iconst (v := 0) hx hb dX4_number_11 (by decide) ?_
  refine lv_topi (fun y0 ey0 => ?_)
  obtain rfl : y0 = nI 0 := ey0.trans (rfl)
  refine lv_iconst (v := 1) hx hb dX4_number_12 (by decide) ?_
  refine va_iast hx hb hK hP hD hS 22 0 rfl rfl (vp_in_nI (show 0 < 64 by omega) (by decide)) dX4_number_13 (fun H locs hP hD hS => ?_)
  rw [nI_clamp (show 0 < 2 ^ 31 by have := (show 0 < 64 by omega); omega)] at hP hD
  have hP : va_P (dC, dI) vwCl (mL AB cI cZ (va_up sc 15 0) (va_up ar 26 (upd (ar 26) 0 1))) H := hP
  have hD : va_D V (mL AB cI cZ (va_up sc 15 0) (va_up ar 26 (upd (ar 26) 0 1))) := hD
  refine w_loopH (pc := 14) 31 (fun j ls H locs => ∃ (S K : List Nat) (na nf nm wk : Nat → Int32), va_P (dC, dI) vwCl (mL AB cI cZ (va_up sc 15 (nI K.length)) (va_up (va_up (va_up (va_up ar 16 na) 17 nf) 25 nm) 26 wk)) H ∧ va_D V (mL AB cI cZ (va_up sc 15 (nI K.length)) (va_up (va_up (va_up (va_up ar 16 na) 17 nf) 25 nm) 26 wk)) ∧ va_S V s.heap H locs ∧ nIv (ar 22) (ar 23) sam (nrun (ar 22) (ar 23) sam 31 [1] []) (31 - j) S K na nf nm wk ∧ lv_has ls 5 [(0, .ref (AB 0)), (1, .int (nI S.length))]) ?_ 0 (Nat.zero_le _) ls _ _ ⟨[1], [], ar 16, ar 17, ar 25, upd (ar 26) 0 1, hP, hD, hS, ⟨⟨upd_eq, trivial⟩, fun k hk => by rw [List.mem_singleton.mp hk]; decide, by decide, by decide, rfl, (fun i k h => absurd h (by simp)), fun c c1 c2 _ => hnm c c1 c2⟩, lv_sub hl [1, 0] rfl⟩
  intro j ls H locs hk hI ih
  obtain ⟨S, K, na, nf, nm, wk, hP, hD, hS, hN, hl⟩ := hI
  have hlen := hN.len
  refine lv_iload_n hx hb dX4_number_14 rfl (lv_at hl 1 rfl) ?_
  refine lv_if_le (tgt := 135) hx hb dX4_number_15 (by decide) (fun c15_1 => ?_) (fun c15_1 => ?_)
  · skip
    obtain rfl := nI_len0 (by omega) c15_1
    have hKf := hN.2.2.2.2.1
    rw [nrun_nil] at hKf
    have hl : lv_has ls 5 [(0, .ref (AB 0)), (1, .int (nI 0))] := hl
    refine lv_iconst (v := 0) hx hb dX4_number_135 (by decide) ?_
    refine lv_istore_n (lv' := [(2, .int 0), (0, .ref (AB 0)), (1, .int (nI 0))]) hx hb dX4_number_136 rfl hl (by decide) rfl (fun ls hl => ?_)
    refine w_loopH (pc := 137) K.length (fun i ls H locs => va_P (dC, dI) vwCl (mL AB cI cZ (va_up sc 15 (nI K.length)) (va_up (va_up (va_up (va_up (va_up ar 16 na) 17 (fillN nf (rsK (ar 22) (ar 23) nm sam K 0) i)) 18 (fillN (ar 18) (rsK (ar 22) (ar 23) nm sam K 1) i)) 25 nm) 26 wk)) H ∧ va_D V (mL AB cI cZ (va_up sc 15 (nI K.length)) (va_up (va_up (va_up (va_up (va_up ar 16 na) 17 (fillN nf (rsK (ar 22) (ar 23) nm sam K 0) i)) 18 (fillN (ar 18) (rsK (ar 22) (ar 23) nm sam K 1) i)) 25 nm) 26 wk)) ∧ va_S V s.heap H locs ∧ lv_has ls 5 [(0, .ref (AB 0)), (2, .int (nI i))]) ?_ 0 (Nat.zero_le _) ls _ _ ⟨by rw [fillN_0, fillN_0]; exact hP, by rw [fillN_0, fillN_0]; exact hD, hS, lv_sub hl [1, 0] rfl⟩
    intro i ls H locs hki hI ih2
    obtain ⟨hP, hD, hS, hl⟩ := hI
    refine lv_iload_n hx hb dX4_number_137 rfl (lv_at hl 1 rfl) ?_
    refine lv_aload_n hx hb dX4_number_138 rfl (lv_at hl 0 rfl) ?_
    refine va_get (D := (dC, dI)) (ci := 4) (v := .int (nI K.length)) (C := RX4) (T := TX4) (N := 33) hx hb hts hinX4 hown hK hP 0 rfl rfl 15 (by decide) (hts _ (List.mem_of_getElem? (i := 1) rfl)) (fun _ h9 => h9) rfl dX4_number_139 ?_
    refine lv_icmp_ge (tgt := 256) hx hb dX4_number_142 (by decide) (fun c142_2 => ?_) (fun c142_2 => ?_)
    · skip
      have hiK : i = K.length := ctr_ge (N := K.length) rfl (by omega) hki c142_2
      rw [hiK] at hP hD hl
      refine W.vret hx hb hr (fun t ht hW => ⟨⟨(va_up sc 15 (nI K.length), va_up (va_up (va_up (va_up (va_up ar 16 na) 17 (fillN nf (rsK (ar 22) (ar 23) nm sam K 0) K.length)) 18 (fillN (ar 18) (rsK (ar 22) (ar 23) nm sam K 1) K.length)) 25 nm) 26 wk), rfl, ⟨na, _, _, nm, wk, by rw [← hKf], ?_⟩, by rw [ht]; exact hP, hD⟩, hS.F ht⟩) hS.2.2 dX4_number_256
      rw [show nrun ((sc, ar).2 22) ((sc, ar).2 23) sam 31 [1] [] = K from hKf.symm]
      refine ⟨by have h9 : 0 + K.length ≤ 31 := hlen; omega, fun i k hi => ?_⟩
      obtain ⟨g1, g2, g3, g4, g5⟩ := hN.2.2.2.2.2.1 i k hi
      have hlt := getq_lt hi
      exact ⟨g1, by rw [fillN_lt _ _ hlt]; unfold rsK; rw [hi]; rfl, by rw [fillN_lt _ _ hlt]; unfold rsK; rw [hi], g3, g4, g5⟩
    · skip
      have hlt : i < K.length := ctr_lt (N := K.length) rfl (by omega) hki c142_2
      obtain ⟨k, hKi⟩ : ∃ k, K[i]? = some k := ⟨_, List.getElem?_eq_getElem hlt⟩
      obtain ⟨g1, g2, g3, ⟨hk1, hk2⟩, hbk⟩ := hN.2.2.2.2.2.1 i k hKi
      refine lv_aload_n hx hb dX4_number_145 rfl (lv_at hl 0 rfl) ?_
      refine va_get (D := (dC, dI)) (ci := 4) (v := .ref (AB 17)) (C := RX4) (T := TX4) (N := 33) hx hb hts hinX4 hown hK hP 0 rfl rfl 17 (by decide) (hts _ (List.mem_of_getElem? (i := 8) rfl)) (fun _ h9 => h9) rfl dX4_number_146 ?_
      refine lv_iload_n hx hb dX4_number_149 rfl (lv_at hl 1 rfl) ?_
      refine va_iald hx hb hK hP 13 0 rfl rfl (vp_in_nI (show i < 32 by omega) (by decide)) dX4_number_150 ?_
      rw [nI_clamp (show i < 2 ^ 31 by have := (show i < 32 by omega); omega)]
      refine lv_topi (fun y3 ey3 => ?_)
      obtain rfl : y3 = nI k := ey3.trans ((fillN_at nf _ (Nat.le_refl i)).trans g2)
      refine lv_istore_n (lv' := [(3, .int (nI k)), (0, .ref (AB 0)), (2, .int (nI i))]) hx hb dX4_number_151 rfl hl (by decide) rfl (fun ls hl => ?_)
      refine lv_aload_n hx hb dX4_number_152 rfl (lv_at hl 1 rfl) ?_
      refine va_get (D := (dC, dI)) (ci := 4) (v := .ref (AB 16)) (C := RX4) (T := TX4) (N := 33) hx hb hts hinX4 hown hK hP 0 rfl rfl 16 (by decide) (hts _ (List.mem_of_getElem? (i := 6) rfl)) (fun _ h9 => h9) rfl dX4_number_153 ?_
      refine lv_iload_n hx hb dX4_number_156 rfl (lv_at hl 2 rfl) ?_
      refine va_iald hx hb hK hP 12 0 rfl rfl (vp_in_nI (show i < 32 by omega) (by decide)) dX4_number_157 ?_
      rw [nI_clamp (show i < 2 ^ 31 by have := (show i < 32 by omega); omega)]
      refine lv_topi (fun y4 ey4 => ?_)
      obtain rfl : y4 = ar 23 k := ey4.trans (g1)
      refine lv_if_ge (tgt := 165) hx hb dX4_number_158 (by decide) (fun c158_5 => ?_) (fun c158_5 => ?_)
      · skip
        have hnd : ¬ ar 23 k < 0 := Int32.not_lt.mpr c158_5
        have hk16 : k < 16 := hdos k hk1 hk2 hbk c158_5
        refine lv_iconst (v := 0) hx hb dX4_number_165 (by decide) ?_
        refine lv_istore (lv' := [(4, .int 0), (3, .int (nI k)), (0, .ref (AB 0)), (2, .int (nI i))]) hx hb dX4_number_166 hl (by decide) rfl (fun ls hl => ?_)
        refine lv_aload_n hx hb dX4_number_168 rfl (lv_at hl 2 rfl) ?_
        refine va_get (D := (dC, dI)) (ci := 4) (v := .ref (AB 17)) (C := RX4) (T := TX4) (N := 33) hx hb hts hinX4 hown hK hP 0 rfl rfl 17 (by decide) (hts _ (List.mem_of_getElem? (i := 8) rfl)) (fun _ h9 => h9) rfl dX4_number_169 ?_
        refine lv_iload_n hx hb dX4_number_172 rfl (lv_at hl 3 rfl) ?_
        refine lv_iload hx hb dX4_number_173 (lv_at hl 0 rfl) ?_
        refine lv_if_ne (tgt := 189) hx hb dX4_number_175 (by decide) (fun c175_6 => ?_) (fun c175_6 => ?_)
        · exact absurd rfl c175_6
        · skip
          refine lv_aload_n hx hb dX4_number_178 rfl (lv_at hl 2 rfl) ?_
          refine va_get (D := (dC, dI)) (ci := 4) (v := .ref (AB 22)) (C := RX4) (T := TX4) (N := 33) hx hb hts hinX4 hown hK hP 0 rfl rfl 22 (by decide) (hts _ (List.mem_of_getElem? (i := 4) rfl)) (fun _ h9 => h9) rfl dX4_number_179 ?_
          refine lv_iconst (v := 2) hx hb dX4_number_182 (by decide) ?_
          refine lv_iload_n hx hb dX4_number_183 rfl (lv_at hl 1 rfl) ?_
          refine lv_imul hx hb dX4_number_184 ?_
          refine lv_topi (fun y7 ey7 => ?_)
          obtain rfl : y7 = nI (2 * k) := ey7.trans (pk_mul 2 k)
          refine va_iald hx hb hK hP 18 0 rfl rfl (vp_in_nI (show (2 * k) < 64 by omega) (by decide)) dX4_number_185 ?_
          rw [nI_clamp (show (2 * k) < 2 ^ 31 by have := (show (2 * k) < 64 by omega); omega)]
          refine lv_if_ne (tgt := 193) hx hb dX4_number_186 (by decide) (fun c186_8 => ?_) (fun c186_8 => ?_)
          · skip
            have hs0 := hsam (2 * k) (by omega) (by omega) (hpos (2 * k) (by omega) (by omega) c186_8)
            have hs032 := hs0.2.2
            refine lv_aload_n hx hb dX4_number_193 rfl (lv_at hl 2 rfl) ?_
            refine va_get (D := (dC, dI)) (ci := 4) (v := .ref (AB 25)) (C := RX4) (T := TX4) (N := 33) hx hb hts hinX4 hown hK hP 0 rfl rfl 25 (by decide) (hts _ (List.mem_of_getElem? (i := 5) rfl)) (fun _ h9 => h9) rfl dX4_number_194 ?_
            refine lv_aload_n hx hb dX4_number_197 rfl (lv_at hl 2 rfl) ?_
            refine va_get (D := (dC, dI)) (ci := 4) (v := .ref (AB 24)) (C := RX4) (T := TX4) (N := 33) hx hb hts hinX4 hown hK hP 0 rfl rfl 24 (by decide) (hts _ (List.mem_of_getElem? (i := 3) rfl)) (fun _ h9 => h9) rfl dX4_number_198 ?_
            refine lv_iconst (v := 2) hx hb dX4_number_201 (by decide) ?_
            refine lv_iload_n hx hb dX4_number_202 rfl (lv_at hl 1 rfl) ?_
            refine lv_imul hx hb dX4_number_203 ?_
            refine lv_topi (fun y9 ey9 => ?_)
            obtain rfl : y9 = nI (2 * k) := ey9.trans (pk_mul 2 k)
            refine va_iald hx hb hK hP 20 0 rfl rfl (vp_in_nI (show (2 * k) < 64 by omega) (by decide)) dX4_number_204 ?_
            rw [nI_clamp (show (2 * k) < 2 ^ 31 by have := (show (2 * k) < 64 by omega); omega)]
            refine lv_topi (fun y10 ey10 => ?_)
            obtain rfl : y10 = nI (sam (2 * k)) := ey10.trans (hs0.1)
            refine va_iald hx hb hK hP 21 0 rfl rfl (vp_in_nI (show (sam (2 * k)) < 64 by omega) (by decide)) dX4_number_205 ?_
            rw [nI_clamp (show (sam (2 * k)) < 2 ^ 31 by have := (show (sam (2 * k)) < 64 by omega); omega)]
            refine va_iast hx hb hK hP hD hS 13 0 rfl rfl (vp_in_nI (show i < 32 by omega) (by decide)) dX4_number_206 (fun H locs hP hD hS => ?_)
            rw [nI_clamp (show i < 2 ^ 31 by have := (show i < 32 by omega); omega)] at hP hD
            have hP : va_P (dC, dI) vwCl (mL AB cI cZ (va_up sc 15 (nI K.length)) (va_up (va_up (va_up (va_up (va_up ar 16 na) 17 (upd (fillN nf (rsK (ar 22) (ar 23) nm sam K 0) i) i (nm (sam (2 * k))))) 18 (fillN (ar 18) (rsK (ar 22) (ar 23) nm sam K 1) i)) 25 nm) 26 wk)) H := hP
            have hD : va_D V (mL AB cI cZ (va_up sc 15 (nI K.length)) (va_up (va_up (va_up (va_up (va_up ar 16 na) 17 (upd (fillN nf (rsK (ar 22) (ar 23) nm sam K 0) i) i (nm (sam (2 * k))))) 18 (fillN (ar 18) (rsK (ar 22) (ar 23) nm sam K 1) i)) 25 nm) 26 wk)) := hD
            rw [show upd (fillN nf (rsK (ar 22) (ar 23) nm sam K 0) i) i (nm (sam (2 * k))) = fillN nf (rsK (ar 22) (ar 23) nm sam K 0) (i + 1) from fillN_s nf (rsK (ar 22) (ar 23) nm sam K 0) i (rsK_at (w := 0) (bel := ar 22) (nm := nm) (sam := sam) hKi hnd c186_8)] at hP hD
            refine lv_aload_n hx hb dX4_number_207 rfl (lv_at hl 2 rfl) ?_
            refine va_get (D := (dC, dI)) (ci := 4) (v := .ref (AB 18)) (C := RX4) (T := TX4) (N := 33) hx hb hts hinX4 hown hK hP 0 rfl rfl 18 (by decide) (hts _ (List.mem_of_getElem? (i := 9) rfl)) (fun _ h9 => h9) rfl dX4_number_208 ?_
            refine lv_iload_n hx hb dX4_number_211 rfl (lv_at hl 3 rfl) ?_
            refine lv_iload hx hb dX4_number_212 (lv_at hl 0 rfl) ?_
            refine lv_if_ne (tgt := 230) hx hb dX4_number_214 (by decide) (fun c214_11 => ?_) (fun c214_11 => ?_)
            · exact absurd rfl c214_11
            · skip
              refine lv_aload_n hx hb dX4_number_217 rfl (lv_at hl 2 rfl) ?_
              refine va_get (D := (dC, dI)) (ci := 4) (v := .ref (AB 22)) (C := RX4) (T := TX4) (N := 33) hx hb hts hinX4 hown hK hP 0 rfl rfl 22 (by decide) (hts _ (List.mem_of_getElem? (i := 4) rfl)) (fun _ h9 => h9) rfl dX4_number_218 ?_
              refine lv_iconst (v := 2) hx hb dX4_number_221 (by decide) ?_
              refine lv_iload_n hx hb dX4_number_222 rfl (lv_at hl 1 rfl) ?_
              refine lv_imul hx hb dX4_number_223 ?_
              refine lv_topi (fun y12 ey12 => ?_)
              obtain rfl : y12 = nI (2 * k) := ey12.trans (pk_mul 2 k)
              refine lv_iconst (v := 1) hx hb dX4_number_224 (by decide) ?_
              refine lv_iadd hx hb dX4_number_225 ?_
              refine lv_topi (fun y13 ey13 => ?_)
              obtain rfl : y13 = nI (2 * k + 1) := ey13.trans (nI_1 (2 * k))
              refine va_iald hx hb hK hP 18 0 rfl rfl (vp_in_nI (show (2 * k + 1) < 64 by omega) (by decide)) dX4_number_226 ?_
              rw [nI_clamp (show (2 * k + 1) < 2 ^ 31 by have := (show (2 * k + 1) < 64 by omega); omega)]
              refine lv_if_ne (tgt := 234) hx hb dX4_number_227 (by decide) (fun c227_14 => ?_) (fun c227_14 => ?_)
              · skip
                have hs1 := hsam (2 * k + 1) (by omega) (by omega) (hpos (2 * k + 1) (by omega) (by omega) c227_14)
                have hs132 := hs1.2.2
                refine lv_aload_n hx hb dX4_number_234 rfl (lv_at hl 2 rfl) ?_
                refine va_get (D := (dC, dI)) (ci := 4) (v := .ref (AB 25)) (C := RX4) (T := TX4) (N := 33) hx hb hts hinX4 hown hK hP 0 rfl rfl 25 (by decide) (hts _ (List.mem_of_getElem? (i := 5) rfl)) (fun _ h9 => h9) rfl dX4_number_235 ?_
                refine lv_aload_n hx hb dX4_number_238 rfl (lv_at hl 2 rfl) ?_
                refine va_get (D := (dC, dI)) (ci := 4) (v := .ref (AB 24)) (C := RX4) (T := TX4) (N := 33) hx hb hts hinX4 hown hK hP 0 rfl rfl 24 (by decide) (hts _ (List.mem_of_getElem? (i := 3) rfl)) (fun _ h9 => h9) rfl dX4_number_239 ?_
                refine lv_iconst (v := 2) hx hb dX4_number_242 (by decide) ?_
                refine lv_iload_n hx hb dX4_number_243 rfl (lv_at hl 1 rfl) ?_
                refine lv_imul hx hb dX4_number_244 ?_
                refine lv_topi (fun y15 ey15 => ?_)
                obtain rfl : y15 = nI (2 * k) := ey15.trans (pk_mul 2 k)
                refine lv_iconst (v := 1) hx hb dX4_number_245 (by decide) ?_
                refine lv_iadd hx hb dX4_number_246 ?_
                refine lv_topi (fun y16 ey16 => ?_)
                obtain rfl : y16 = nI (2 * k + 1) := ey16.trans (nI_1 (2 * k))
                refine va_iald hx hb hK hP 20 0 rfl rfl (vp_in_nI (show (2 * k + 1) < 64 by omega) (by decide)) dX4_number_247 ?_
                rw [nI_clamp (show (2 * k + 1) < 2 ^ 31 by have := (show (2 * k + 1) < 64 by omega); omega)]
                refine lv_topi (fun y17 ey17 => ?_)
                obtain rfl : y17 = nI (sam (2 * k + 1)) := ey17.trans (hs1.1)
                refine va_iald hx hb hK hP 21 0 rfl rfl (vp_in_nI (show (sam (2 * k + 1)) < 64 by omega) (by decide)) dX4_number_248 ?_
                rw [nI_clamp (show (sam (2 * k + 1)) < 2 ^ 31 by have := (show (sam (2 * k + 1)) < 64 by omega); omega)]
                refine va_iast hx hb hK hP hD hS 14 0 rfl rfl (vp_in_nI (show i < 32 by omega) (by decide)) dX4_number_249 (fun H locs hP hD hS => ?_)
                rw [nI_clamp (show i < 2 ^ 31 by have := (show i < 32 by omega); omega)] at hP hD
                have hP : va_P (dC, dI) vwCl (mL AB cI cZ (va_up sc 15 (nI K.length)) (va_up (va_up (va_up (va_up (va_up ar 16 na) 17 (fillN nf (rsK (ar 22) (ar 23) nm sam K 0) (i + 1))) 18 (upd (fillN (ar 18) (rsK (ar 22) (ar 23) nm sam K 1) i) i (nm (sam (2 * k + 1))))) 25 nm) 26 wk)) H := hP
                have hD : va_D V (mL AB cI cZ (va_up sc 15 (nI K.length)) (va_up (va_up (va_up (va_up (va_up ar 16 na) 17 (fillN nf (rsK (ar 22) (ar 23) nm sam K 0) (i + 1))) 18 (upd (fillN (ar 18) (rsK (ar 22) (ar 23) nm sam K 1) i) i (nm (sam (2 * k + 1))))) 25 nm) 26 wk)) := hD
                rw [show upd (fillN (ar 18) (rsK (ar 22) (ar 23) nm sam K 1) i) i (nm (sam (2 * k + 1))) = fillN (ar 18) (rsK (ar 22) (ar 23) nm sam K 1) (i + 1) from fillN_s (ar 18) (rsK (ar 22) (ar 23) nm sam K 1) i (rsK_at (w := 1) (bel := ar 22) (nm := nm) (sam := sam) hKi hnd c227_14)] at hP hD
                obtain ⟨y18, ey18⟩ : ∃ y : Int32, y = (nI i) + 1 := ⟨_, rfl⟩
                refine lv_iinc (v := y18) (lv' := [(2, .int y18), (4, .int 0), (3, .int (nI k)), (0, .ref (AB 0))]) hx hb dX4_number_250 hl (k := 3) rfl (by rw [ey18]; rfl) (by decide) rfl (fun ls hl => ?_)
                obtain rfl : y18 = nI (i + 1) := ey18.trans (nI_1 i)
                refine lv_goto (tgt := 137) hx hb dX4_number_253 (by decide) ?_
                exact ih2 ls H locs ⟨hP, hD, hS, lv_sub hl [3, 0] rfl⟩ hlt
              · skip
                refine lv_iconst (v := (-1)) hx hb dX4_number_230 (by decide) ?_
                refine lv_goto (tgt := 249) hx hb dX4_number_231 (by decide) ?_
                refine va_iast hx hb hK hP hD hS 14 0 rfl rfl (vp_in_nI (show i < 32 by omega) (by decide)) dX4_number_249 (fun H locs hP hD hS => ?_)
                rw [nI_clamp (show i < 2 ^ 31 by have := (show i < 32 by omega); omega)] at hP hD
                have hP : va_P (dC, dI) vwCl (mL AB cI cZ (va_up sc 15 (nI K.length)) (va_up (va_up (va_up (va_up (va_up ar 16 na) 17 (fillN nf (rsK (ar 22) (ar 23) nm sam K 0) (i + 1))) 18 (upd (fillN (ar 18) (rsK (ar 22) (ar 23) nm sam K 1) i) i (-1))) 25 nm) 26 wk)) H := hP
                have hD : va_D V (mL AB cI cZ (va_up sc 15 (nI K.length)) (va_up (va_up (va_up (va_up (va_up ar 16 na) 17 (fillN nf (rsK (ar 22) (ar 23) nm sam K 0) (i + 1))) 18 (upd (fillN (ar 18) (rsK (ar 22) (ar 23) nm sam K 1) i) i (-1))) 25 nm) 26 wk)) := hD
                rw [show upd (fillN (ar 18) (rsK (ar 22) (ar 23) nm sam K 1) i) i (-1) = fillN (ar 18) (rsK (ar 22) (ar 23) nm sam K 1) (i + 1) from fillN_s (ar 18) (rsK (ar 22) (ar 23) nm sam K 1) i (rsK_no hKi (Or.inr c227_14))] at hP hD
                obtain ⟨y19, ey19⟩ : ∃ y : Int32, y = (nI i) + 1 := ⟨_, rfl⟩
                refine lv_iinc (v := y19) (lv' := [(2, .int y19), (4, .int 0), (3, .int (nI k)), (0, .ref (AB 0))]) hx hb dX4_number_250 hl (k := 3) rfl (by rw [ey19]; rfl) (by decide) rfl (fun ls hl => ?_)
                obtain rfl : y19 = nI (i + 1) := ey19.trans (nI_1 i)
                refine lv_goto (tgt := 137) hx hb dX4_number_253 (by decide) ?_
                exact ih2 ls H locs ⟨hP, hD, hS, lv_sub hl [3, 0] rfl⟩ hlt
          · skip
            refine lv_iconst (v := (-1)) hx hb dX4_number_189 (by decide) ?_
            refine lv_goto (tgt := 206) hx hb dX4_number_190 (by decide) ?_
            refine va_iast hx hb hK hP hD hS 13 0 rfl rfl (vp_in_nI (show i < 32 by omega) (by decide)) dX4_number_206 (fun H locs hP hD hS => ?_)
            rw [nI_clamp (show i < 2 ^ 31 by have := (show i < 32 by omega); omega)] at hP hD
            have hP : va_P (dC, dI) vwCl (mL AB cI cZ (va_up sc 15 (nI K.length)) (va_up (va_up (va_up (va_up (va_up ar 16 na) 17 (upd (fillN nf (rsK (ar 22) (ar 23) nm sam K 0) i) i (-1))) 18 (fillN (ar 18) (rsK (ar 22) (ar 23) nm sam K 1) i)) 25 nm) 26 wk)) H := hP
            have hD : va_D V (mL AB cI cZ (va_up sc 15 (nI K.length)) (va_up (va_up (va_up (va_up (va_up ar 16 na) 17 (upd (fillN nf (rsK (ar 22) (ar 23) nm sam K 0) i) i (-1))) 18 (fillN (ar 18) (rsK (ar 22) (ar 23) nm sam K 1) i)) 25 nm) 26 wk)) := hD
            rw [show upd (fillN nf (rsK (ar 22) (ar 23) nm sam K 0) i) i (-1) = fillN nf (rsK (ar 22) (ar 23) nm sam K 0) (i + 1) from fillN_s nf (rsK (ar 22) (ar 23) nm sam K 0) i (rsK_no hKi (Or.inr c186_8))] at hP hD
            refine lv_aload_n hx hb dX4_number_207 rfl (lv_at hl 2 rfl) ?_
            refine va_get (D := (dC, dI)) (ci := 4) (v := .ref (AB 18)) (C := RX4) (T := TX4) (N := 33) hx hb hts hinX4 hown hK hP 0 rfl rfl 18 (by decide) (hts _ (List.mem_of_getElem? (i := 9) rfl)) (fun _ h9 => h9) rfl dX4_number_208 ?_
            refine lv_iload_n hx hb dX4_number_211 rfl (lv_at hl 3 rfl) ?_
            refine lv_iload hx hb dX4_number_212 (lv_at hl 0 rfl) ?_
            refine lv_if_ne (tgt := 230) hx hb dX4_number_214 (by decide) (fun c214_20 => ?_) (fun c214_20 => ?_)
            · exact absurd rfl c214_20
            · skip
              refine lv_aload_n hx hb dX4_number_217 rfl (lv_at hl 2 rfl) ?_
              refine va_get (D := (dC, dI)) (ci := 4) (v := .ref (AB 22)) (C := RX4) (T := TX4) (N := 33) hx hb hts hinX4 hown hK hP 0 rfl rfl 22 (by decide) (hts _ (List.mem_of_getElem? (i := 4) rfl)) (fun _ h9 => h9) rfl dX4_number_218 ?_
              refine lv_iconst (v := 2) hx hb dX4_number_221 (by decide) ?_
              refine lv_iload_n hx hb dX4_number_222 rfl (lv_at hl 1 rfl) ?_
              refine lv_imul hx hb dX4_number_223 ?_
              refine lv_topi (fun y21 ey21 => ?_)
              obtain rfl : y21 = nI (2 * k) := ey21.trans (pk_mul 2 k)
              refine lv_iconst (v := 1) hx hb dX4_number_224 (by decide) ?_
              refine lv_iadd hx hb dX4_number_225 ?_
              refine lv_topi (fun y22 ey22 => ?_)
              obtain rfl : y22 = nI (2 * k + 1) := ey22.trans (nI_1 (2 * k))
              refine va_iald hx hb hK hP 18 0 rfl rfl (vp_in_nI (show (2 * k + 1) < 64 by omega) (by decide)) dX4_number_226 ?_
              rw [nI_clamp (show (2 * k + 1) < 2 ^ 31 by have := (show (2 * k + 1) < 64 by omega); omega)]
              refine lv_if_ne (tgt := 234) hx hb dX4_number_227 (by decide) (fun c227_23 => ?_) (fun c227_23 => ?_)
              · skip
                have hs1 := hsam (2 * k + 1) (by omega) (by omega) (hpos (2 * k + 1) (by omega) (by omega) c227_23)
                have hs132 := hs1.2.2
                refine lv_aload_n hx hb dX4_number_234 rfl (lv_at hl 2 rfl) ?_
                refine va_get (D := (dC, dI)) (ci := 4) (v := .ref (AB 25)) (C := RX4) (T := TX4) (N := 33) hx hb hts hinX4 hown hK hP 0 rfl rfl 25 (by decide) (hts _ (List.mem_of_getElem? (i := 5) rfl)) (fun _ h9 => h9) rfl dX4_number_235 ?_
                refine lv_aload_n hx hb dX4_number_238 rfl (lv_at hl 2 rfl) ?_
                refine va_get (D := (dC, dI)) (ci := 4) (v := .ref (AB 24)) (C := RX4) (T := TX4) (N := 33) hx hb hts hinX4 hown hK hP 0 rfl rfl 24 (by decide) (hts _ (List.mem_of_getElem? (i := 3) rfl)) (fun _ h9 => h9) rfl dX4_number_239 ?_
                refine lv_iconst (v := 2) hx hb dX4_number_242 (by decide) ?_
                refine lv_iload_n hx hb dX4_number_243 rfl (lv_at hl 1 rfl) ?_
                refine lv_imul hx hb dX4_number_244 ?_
                refine lv_topi (fun y24 ey24 => ?_)
                obtain rfl : y24 = nI (2 * k) := ey24.trans (pk_mul 2 k)
                refine lv_iconst (v := 1) hx hb dX4_number_245 (by decide) ?_
                refine lv_iadd hx hb dX4_number_246 ?_
                refine lv_topi (fun y25 ey25 => ?_)
                obtain rfl : y25 = nI (2 * k + 1) := ey25.trans (nI_1 (2 * k))
                refine va_iald hx hb hK hP 20 0 rfl rfl (vp_in_nI (show (2 * k + 1) < 64 by omega) (by decide)) dX4_number_247 ?_
                rw [nI_clamp (show (2 * k + 1) < 2 ^ 31 by have := (show (2 * k + 1) < 64 by omega); omega)]
                refine lv_topi (fun y26 ey26 => ?_)
                obtain rfl : y26 = nI (sam (2 * k + 1)) := ey26.trans (hs1.1)
                refine va_iald hx hb hK hP 21 0 rfl rfl (vp_in_nI (show (sam (2 * k + 1)) < 64 by omega) (by decide)) dX4_number_248 ?_
                rw [nI_clamp (show (sam (2 * k + 1)) < 2 ^ 31 by have := (show (sam (2 * k + 1)) < 64 by omega); omega)]
                refine va_iast hx hb hK hP hD hS 14 0 rfl rfl (vp_in_nI (show i < 32 by omega) (by decide)) dX4_number_249 (fun H locs hP hD hS => ?_)
                rw [nI_clamp (show i < 2 ^ 31 by have := (show i < 32 by omega); omega)] at hP hD
                have hP : va_P (dC, dI) vwCl (mL AB cI cZ (va_up sc 15 (nI K.length)) (va_up (va_up (va_up (va_up (va_up ar 16 na) 17 (fillN nf (rsK (ar 22) (ar 23) nm sam K 0) (i + 1))) 18 (upd (fillN (ar 18) (rsK (ar 22) (ar 23) nm sam K 1) i) i (nm (sam (2 * k + 1))))) 25 nm) 26 wk)) H := hP
                have hD : va_D V (mL AB cI cZ (va_up sc 15 (nI K.length)) (va_up (va_up (va_up (va_up (va_up ar 16 na) 17 (fillN nf (rsK (ar 22) (ar 23) nm sam K 0) (i + 1))) 18 (upd (fillN (ar 18) (rsK (ar 22) (ar 23) nm sam K 1) i) i (nm (sam (2 * k + 1))))) 25 nm) 26 wk)) := hD
                rw [show upd (fillN (ar 18) (rsK (ar 22) (ar 23) nm sam K 1) i) i (nm (sam (2 * k + 1))) = fillN (ar 18) (rsK (ar 22) (ar 23) nm sam K 1) (i + 1) from fillN_s (ar 18) (rsK (ar 22) (ar 23) nm sam K 1) i (rsK_at (w := 1) (bel := ar 22) (nm := nm) (sam := sam) hKi hnd c227_23)] at hP hD
                obtain ⟨y27, ey27⟩ : ∃ y : Int32, y = (nI i) + 1 := ⟨_, rfl⟩
                refine lv_iinc (v := y27) (lv' := [(2, .int y27), (4, .int 0), (3, .int (nI k)), (0, .ref (AB 0))]) hx hb dX4_number_250 hl (k := 3) rfl (by rw [ey27]; rfl) (by decide) rfl (fun ls hl => ?_)
                obtain rfl : y27 = nI (i + 1) := ey27.trans (nI_1 i)
                refine lv_goto (tgt := 137) hx hb dX4_number_253 (by decide) ?_
                exact ih2 ls H locs ⟨hP, hD, hS, lv_sub hl [3, 0] rfl⟩ hlt
              · skip
                refine lv_iconst (v := (-1)) hx hb dX4_number_230 (by decide) ?_
                refine lv_goto (tgt := 249) hx hb dX4_number_231 (by decide) ?_
                refine va_iast hx hb hK hP hD hS 14 0 rfl rfl (vp_in_nI (show i < 32 by omega) (by decide)) dX4_number_249 (fun H locs hP hD hS => ?_)
                rw [nI_clamp (show i < 2 ^ 31 by have := (show i < 32 by omega); omega)] at hP hD
                have hP : va_P (dC, dI) vwCl (mL AB cI cZ (va_up sc 15 (nI K.length)) (va_up (va_up (va_up (va_up (va_up ar 16 na) 17 (fillN nf (rsK (ar 22) (ar 23) nm sam K 0) (i + 1))) 18 (upd (fillN (ar 18) (rsK (ar 22) (ar 23) nm sam K 1) i) i (-1))) 25 nm) 26 wk)) H := hP
                have hD : va_D V (mL AB cI cZ (va_up sc 15 (nI K.length)) (va_up (va_up (va_up (va_up (va_up ar 16 na) 17 (fillN nf (rsK (ar 22) (ar 23) nm sam K 0) (i + 1))) 18 (upd (fillN (ar 18) (rsK (ar 22) (ar 23) nm sam K 1) i) i (-1))) 25 nm) 26 wk)) := hD
                rw [show upd (fillN (ar 18) (rsK (ar 22) (ar 23) nm sam K 1) i) i (-1) = fillN (ar 18) (rsK (ar 22) (ar 23) nm sam K 1) (i + 1) from fillN_s (ar 18) (rsK (ar 22) (ar 23) nm sam K 1) i (rsK_no hKi (Or.inr c227_23))] at hP hD
                obtain ⟨y28, ey28⟩ : ∃ y : Int32, y = (nI i) + 1 := ⟨_, rfl⟩
                refine lv_iinc (v := y28) (lv' := [(2, .int y28), (4, .int 0), (3, .int (nI k)), (0, .ref (AB 0))]) hx hb dX4_number_250 hl (k := 3) rfl (by rw [ey28]; rfl) (by decide) rfl (fun ls hl => ?_)
                obtain rfl : y28 = nI (i + 1) := ey28.trans (nI_1 i)
                refine lv_goto (tgt := 137) hx hb dX4_number_253 (by decide) ?_
                exact ih2 ls H locs ⟨hP, hD, hS, lv_sub hl [3, 0] rfl⟩ hlt
      · skip
        have hnd : ar 23 k < 0 := Int32.not_le.mp c158_5
        refine lv_iconst (v := 1) hx hb dX4_number_161 (by decide) ?_
        refine lv_goto (tgt := 166) hx hb dX4_number_162 (by decide) ?_
        refine lv_istore (lv' := [(4, .int 1), (3, .int (nI k)), (0, .ref (AB 0)), (2, .int (nI i))]) hx hb dX4_number_166 hl (by decide) rfl (fun ls hl => ?_)
        refine lv_aload_n hx hb dX4_number_168 rfl (lv_at hl 2 rfl) ?_
        refine va_get (D := (dC, dI)) (ci := 4) (v := .ref (AB 17)) (C := RX4) (T := TX4) (N := 33) hx hb hts hinX4 hown hK hP 0 rfl rfl 17 (by decide) (hts _ (List.mem_of_getElem? (i := 8) rfl)) (fun _ h9 => h9) rfl dX4_number_169 ?_
        refine lv_iload_n hx hb dX4_number_172 rfl (lv_at hl 3 rfl) ?_
        refine lv_iload hx hb dX4_number_173 (lv_at hl 0 rfl) ?_
        refine lv_if_ne (tgt := 189) hx hb dX4_number_175 (by decide) (fun c175_29 => ?_) (fun c175_29 => ?_)
        · skip
          refine lv_iconst (v := (-1)) hx hb dX4_number_189 (by decide) ?_
          refine lv_goto (tgt := 206) hx hb dX4_number_190 (by decide) ?_
          refine va_iast hx hb hK hP hD hS 13 0 rfl rfl (vp_in_nI (show i < 32 by omega) (by decide)) dX4_number_206 (fun H locs hP hD hS => ?_)
          rw [nI_clamp (show i < 2 ^ 31 by have := (show i < 32 by omega); omega)] at hP hD
          have hP : va_P (dC, dI) vwCl (mL AB cI cZ (va_up sc 15 (nI K.length)) (va_up (va_up (va_up (va_up (va_up ar 16 na) 17 (upd (fillN nf (rsK (ar 22) (ar 23) nm sam K 0) i) i (-1))) 18 (fillN (ar 18) (rsK (ar 22) (ar 23) nm sam K 1) i)) 25 nm) 26 wk)) H := hP
          have hD : va_D V (mL AB cI cZ (va_up sc 15 (nI K.length)) (va_up (va_up (va_up (va_up (va_up ar 16 na) 17 (upd (fillN nf (rsK (ar 22) (ar 23) nm sam K 0) i) i (-1))) 18 (fillN (ar 18) (rsK (ar 22) (ar 23) nm sam K 1) i)) 25 nm) 26 wk)) := hD
          rw [show upd (fillN nf (rsK (ar 22) (ar 23) nm sam K 0) i) i (-1) = fillN nf (rsK (ar 22) (ar 23) nm sam K 0) (i + 1) from fillN_s nf (rsK (ar 22) (ar 23) nm sam K 0) i (rsK_no hKi (Or.inl hnd))] at hP hD
          refine lv_aload_n hx hb dX4_number_207 rfl (lv_at hl 2 rfl) ?_
          refine va_get (D := (dC, dI)) (ci := 4) (v := .ref (AB 18)) (C := RX4) (T := TX4) (N := 33) hx hb hts hinX4 hown hK hP 0 rfl rfl 18 (by decide) (hts _ (List.mem_of_getElem? (i := 9) rfl)) (fun _ h9 => h9) rfl dX4_number_208 ?_
          refine lv_iload_n hx hb dX4_number_211 rfl (lv_at hl 3 rfl) ?_
          refine lv_iload hx hb dX4_number_212 (lv_at hl 0 rfl) ?_
          refine lv_if_ne (tgt := 230) hx hb dX4_number_214 (by decide) (fun c214_30 => ?_) (fun c214_30 => ?_)
          · skip
            refine lv_iconst (v := (-1)) hx hb dX4_number_230 (by decide) ?_
            refine lv_goto (tgt := 249) hx hb dX4_number_231 (by decide) ?_
            refine va_iast hx hb hK hP hD hS 14 0 rfl rfl (vp_in_nI (show i < 32 by omega) (by decide)) dX4_number_249 (fun H locs hP hD hS => ?_)
            rw [nI_clamp (show i < 2 ^ 31 by have := (show i < 32 by omega); omega)] at hP hD
            have hP : va_P (dC, dI) vwCl (mL AB cI cZ (va_up sc 15 (nI K.length)) (va_up (va_up (va_up (va_up (va_up ar 16 na) 17 (fillN nf (rsK (ar 22) (ar 23) nm sam K 0) (i + 1))) 18 (upd (fillN (ar 18) (rsK (ar 22) (ar 23) nm sam K 1) i) i (-1))) 25 nm) 26 wk)) H := hP
            have hD : va_D V (mL AB cI cZ (va_up sc 15 (nI K.length)) (va_up (va_up (va_up (va_up (va_up ar 16 na) 17 (fillN nf (rsK (ar 22) (ar 23) nm sam K 0) (i + 1))) 18 (upd (fillN (ar 18) (rsK (ar 22) (ar 23) nm sam K 1) i) i (-1))) 25 nm) 26 wk)) := hD
            rw [show upd (fillN (ar 18) (rsK (ar 22) (ar 23) nm sam K 1) i) i (-1) = fillN (ar 18) (rsK (ar 22) (ar 23) nm sam K 1) (i + 1) from fillN_s (ar 18) (rsK (ar 22) (ar 23) nm sam K 1) i (rsK_no hKi (Or.inl hnd))] at hP hD
            obtain ⟨y31, ey31⟩ : ∃ y : Int32, y = (nI i) + 1 := ⟨_, rfl⟩
            refine lv_iinc (v := y31) (lv' := [(2, .int y31), (4, .int 1), (3, .int (nI k)), (0, .ref (AB 0))]) hx hb dX4_number_250 hl (k := 3) rfl (by rw [ey31]; rfl) (by decide) rfl (fun ls hl => ?_)
            obtain rfl : y31 = nI (i + 1) := ey31.trans (nI_1 i)
            refine lv_goto (tgt := 137) hx hb dX4_number_253 (by decide) ?_
            exact ih2 ls H locs ⟨hP, hD, hS, lv_sub hl [3, 0] rfl⟩ hlt
          · exact absurd c214_30 (by decide)
        · exact absurd c175_29 (by decide)
  · skip
    obtain ⟨k, S, rfl⟩ := nI_len1 c15_1
    obtain ⟨g, hg⟩ := hN.f_pos
    rw [hg] at hN
    have hk32 := hN.2.1 k (List.mem_cons_self ..)
    have hlen : S.length + 1 + K.length ≤ 31 := hlen
    have hl : lv_has ls 5 [(0, .ref (AB 0)), (1, .int (nI (S.length + 1)))] := hl
    obtain ⟨y32, ey32⟩ : ∃ y : Int32, y = (nI (S.length + 1)) + (-1) := ⟨_, rfl⟩
    refine lv_iinc (v := y32) (lv' := [(1, .int y32), (0, .ref (AB 0))]) hx hb dX4_number_18 hl (k := 1) rfl (by rw [ey32]; rfl) (by decide) rfl (fun ls hl => ?_)
    obtain rfl : y32 = nI S.length := ey32.trans (dpt_a (S.length + 1))
    refine lv_aload_n hx hb dX4_number_21 rfl (lv_at hl 1 rfl) ?_
    refine va_get (D := (dC, dI)) (ci := 4) (v := .ref (AB 26)) (C := RX4) (T := TX4) (N := 33) hx hb hts hinX4 hown hK hP 0 rfl rfl 26 (by decide) (hts _ (List.mem_of_getElem? (i := 2) rfl)) (fun _ h9 => h9) rfl dX4_number_22 ?_
    refine lv_iload_n hx hb dX4_number_25 rfl (lv_at hl 0 rfl) ?_
    refine va_iald hx hb hK hP 22 0 rfl rfl (vp_in_nI (show S.length < 64 by omega) (by decide)) dX4_number_26 ?_
    rw [nI_clamp (show S.length < 2 ^ 31 by have := (show S.length < 64 by omega); omega)]
    refine lv_topi (fun y33 ey33 => ?_)
    obtain rfl : y33 = nI k := ey33.trans (hN.1.1)
    refine lv_istore_n (lv' := [(2, .int (nI k)), (1, .int (nI S.length)), (0, .ref (AB 0))]) hx hb dX4_number_27 rfl hl (by decide) rfl (fun ls hl => ?_)
    refine lv_aload_n hx hb dX4_number_28 rfl (lv_at hl 2 rfl) ?_
    refine va_get (D := (dC, dI)) (ci := 4) (v := .ref (AB 24)) (C := RX4) (T := TX4) (N := 33) hx hb hts hinX4 hown hK hP 0 rfl rfl 24 (by decide) (hts _ (List.mem_of_getElem? (i := 3) rfl)) (fun _ h9 => h9) rfl dX4_number_29 ?_
    refine lv_iload_n hx hb dX4_number_32 rfl (lv_at hl 0 rfl) ?_
    refine va_iald hx hb hK hP 20 0 rfl rfl (vp_in_nI (show k < 64 by omega) (by decide)) dX4_number_33 ?_
    rw [nI_clamp (show k < 2 ^ 31 by have := (show k < 64 by omega); omega)]
    refine lv_istore_n (lv' := [(3, .int (ar 24 k)), (2, .int (nI k)), (1, .int (nI S.length)), (0, .ref (AB 0))]) hx hb dX4_number_34 rfl hl (by decide) rfl (fun ls hl => ?_)
    refine lv_aload_n hx hb dX4_number_35 rfl (lv_at hl 3 rfl) ?_
    refine va_get (D := (dC, dI)) (ci := 4) (v := .ref (AB 22)) (C := RX4) (T := TX4) (N := 33) hx hb hts hinX4 hown hK hP 0 rfl rfl 22 (by decide) (hts _ (List.mem_of_getElem? (i := 4) rfl)) (fun _ h9 => h9) rfl dX4_number_36 ?_
    refine lv_iload_n hx hb dX4_number_39 rfl (lv_at hl 1 rfl) ?_
    refine va_iald hx hb hK hP 18 0 rfl rfl (vp_in_nI (show k < 64 by omega) (by decide)) dX4_number_40 ?_
    rw [nI_clamp (show k < 2 ^ 31 by have := (show k < 64 by omega); omega)]
    refine lv_if_le (tgt := 132) hx hb dX4_number_41 (by decide) (fun c41_34 => ?_) (fun c41_34 => ?_)
    · skip
      refine lv_goto (tgt := 14) hx hb dX4_number_132 (by decide) ?_
      exact ih ls H locs ⟨S, K, na, nf, nm, wk, hP, hD, hS, by rw [show 31 - (j + 1) = g by omega]; exact hN.skip (fun z9 => absurd c41_34 (Int32.not_le.mpr z9.1)), lv_sub hl [3, 2] rfl⟩ (by omega)
    · skip
      have hbk : 0 < ar 22 k := Int32.not_le.mp c41_34
      have hsm := hsam k hk32.1 hk32.2 hbk
      rw [hsm.1] at hl
      have hsm32 := hsm.2.2
      refine lv_aload_n hx hb dX4_number_44 rfl (lv_at hl 3 rfl) ?_
      refine va_get (D := (dC, dI)) (ci := 4) (v := .ref (AB 25)) (C := RX4) (T := TX4) (N := 33) hx hb hts hinX4 hown hK hP 0 rfl rfl 25 (by decide) (hts _ (List.mem_of_getElem? (i := 5) rfl)) (fun _ h9 => h9) rfl dX4_number_45 ?_
      refine lv_iload_n hx hb dX4_number_48 rfl (lv_at hl 0 rfl) ?_
      refine va_iald hx hb hK hP 21 0 rfl rfl (vp_in_nI (show (sam k) < 64 by omega) (by decide)) dX4_number_49 ?_
      rw [nI_clamp (show (sam k) < 2 ^ 31 by have := (show (sam k) < 64 by omega); omega)]
      refine lv_if_ge (tgt := 132) hx hb dX4_number_50 (by decide) (fun c50_35 => ?_) (fun c50_35 => ?_)
      · skip
        refine lv_goto (tgt := 14) hx hb dX4_number_132 (by decide) ?_
        exact ih ls H locs ⟨S, K, na, nf, nm, wk, hP, hD, hS, by rw [show 31 - (j + 1) = g by omega]; exact hN.skip (fun z9 => absurd c50_35 ((hN.known hsm.2.1 hsm.2.2).mpr z9.2)), lv_sub hl [3, 2] rfl⟩ (by omega)
      · skip
        have hnew := (hN.known hsm.2.1 hsm.2.2).mp c50_35
        refine lv_aload_n hx hb dX4_number_53 rfl (lv_at hl 3 rfl) ?_
        refine va_get (D := (dC, dI)) (ci := 4) (v := .ref (AB 25)) (C := RX4) (T := TX4) (N := 33) hx hb hts hinX4 hown hK hP 0 rfl rfl 25 (by decide) (hts _ (List.mem_of_getElem? (i := 5) rfl)) (fun _ h9 => h9) rfl dX4_number_54 ?_
        refine lv_iload_n hx hb dX4_number_57 rfl (lv_at hl 0 rfl) ?_
        refine lv_aload_n hx hb dX4_number_58 rfl (lv_at hl 3 rfl) ?_
        refine va_get (D := (dC, dI)) (ci := 4) (v := .int (nI K.length)) (C := RX4) (T := TX4) (N := 33) hx hb hts hinX4 hown hK hP 0 rfl rfl 15 (by decide) (hts _ (List.mem_of_getElem? (i := 1) rfl)) (fun _ h9 => h9) rfl dX4_number_59 ?_
        refine va_iast hx hb hK hP hD hS 21 0 rfl rfl (vp_in_nI (show (sam k) < 64 by omega) (by decide)) dX4_number_62 (fun H locs hP hD hS => ?_)
        rw [nI_clamp (show (sam k) < 2 ^ 31 by have := (show (sam k) < 64 by omega); omega)] at hP hD
        have hP : va_P (dC, dI) vwCl (mL AB cI cZ (va_up sc 15 (nI K.length)) (va_up (va_up (va_up (va_up ar 16 na) 17 nf) 25 (upd nm (sam k) (nI K.length))) 26 wk)) H := hP
        have hD : va_D V (mL AB cI cZ (va_up sc 15 (nI K.length)) (va_up (va_up (va_up (va_up ar 16 na) 17 nf) 25 (upd nm (sam k) (nI K.length))) 26 wk)) := hD
        refine lv_aload_n hx hb dX4_number_63 rfl (lv_at hl 3 rfl) ?_
        refine va_get (D := (dC, dI)) (ci := 4) (v := .ref (AB 16)) (C := RX4) (T := TX4) (N := 33) hx hb hts hinX4 hown hK hP 0 rfl rfl 16 (by decide) (hts _ (List.mem_of_getElem? (i := 6) rfl)) (fun _ h9 => h9) rfl dX4_number_64 ?_
        refine lv_aload_n hx hb dX4_number_67 rfl (lv_at hl 3 rfl) ?_
        refine va_get (D := (dC, dI)) (ci := 4) (v := .int (nI K.length)) (C := RX4) (T := TX4) (N := 33) hx hb hts hinX4 hown hK hP 0 rfl rfl 15 (by decide) (hts _ (List.mem_of_getElem? (i := 1) rfl)) (fun _ h9 => h9) rfl dX4_number_68 ?_
        refine lv_aload_n hx hb dX4_number_71 rfl (lv_at hl 3 rfl) ?_
        refine va_get (D := (dC, dI)) (ci := 4) (v := .ref (AB 23)) (C := RX4) (T := TX4) (N := 33) hx hb hts hinX4 hown hK hP 0 rfl rfl 23 (by decide) (hts _ (List.mem_of_getElem? (i := 7) rfl)) (fun _ h9 => h9) rfl dX4_number_72 ?_
        refine lv_iload_n hx hb dX4_number_75 rfl (lv_at hl 1 rfl) ?_
        refine va_iald hx hb hK hP 19 0 rfl rfl (vp_in_nI (show k < 64 by omega) (by decide)) dX4_number_76 ?_
        rw [nI_clamp (show k < 2 ^ 31 by have := (show k < 64 by omega); omega)]
        refine va_iast hx hb hK hP hD hS 12 0 rfl rfl (vp_in_nI (show K.length < 32 by omega) (by decide)) dX4_number_77 (fun H locs hP hD hS => ?_)
        rw [nI_clamp (show K.length < 2 ^ 31 by have := (show K.length < 32 by omega); omega)] at hP hD
        have hP : va_P (dC, dI) vwCl (mL AB cI cZ (va_up sc 15 (nI K.length)) (va_up (va_up (va_up (va_up ar 16 (upd na K.length (ar 23 k))) 17 nf) 25 (upd nm (sam k) (nI K.length))) 26 wk)) H := hP
        have hD : va_D V (mL AB cI cZ (va_up sc 15 (nI K.length)) (va_up (va_up (va_up (va_up ar 16 (upd na K.length (ar 23 k))) 17 nf) 25 (upd nm (sam k) (nI K.length))) 26 wk)) := hD
        refine lv_aload_n hx hb dX4_number_78 rfl (lv_at hl 3 rfl) ?_
        refine va_get (D := (dC, dI)) (ci := 4) (v := .ref (AB 17)) (C := RX4) (T := TX4) (N := 33) hx hb hts hinX4 hown hK hP 0 rfl rfl 17 (by decide) (hts _ (List.mem_of_getElem? (i := 8) rfl)) (fun _ h9 => h9) rfl dX4_number_79 ?_
        refine lv_aload_n hx hb dX4_number_82 rfl (lv_at hl 3 rfl) ?_
        refine va_get (D := (dC, dI)) (ci := 4) (v := .int (nI K.length)) (C := RX4) (T := TX4) (N := 33) hx hb hts hinX4 hown hK hP 0 rfl rfl 15 (by decide) (hts _ (List.mem_of_getElem? (i := 1) rfl)) (fun _ h9 => h9) rfl dX4_number_83 ?_
        refine lv_iload_n hx hb dX4_number_86 rfl (lv_at hl 1 rfl) ?_
        refine va_iast hx hb hK hP hD hS 13 0 rfl rfl (vp_in_nI (show K.length < 32 by omega) (by decide)) dX4_number_87 (fun H locs hP hD hS => ?_)
        rw [nI_clamp (show K.length < 2 ^ 31 by have := (show K.length < 32 by omega); omega)] at hP hD
        have hP : va_P (dC, dI) vwCl (mL AB cI cZ (va_up sc 15 (nI K.length)) (va_up (va_up (va_up (va_up ar 16 (upd na K.length (ar 23 k))) 17 (upd nf K.length (nI k))) 25 (upd nm (sam k) (nI K.length))) 26 wk)) H := hP
        have hD : va_D V (mL AB cI cZ (va_up sc 15 (nI K.length)) (va_up (va_up (va_up (va_up ar 16 (upd na K.length (ar 23 k))) 17 (upd nf K.length (nI k))) 25 (upd nm (sam k) (nI K.length))) 26 wk)) := hD
        refine lv_aload_n hx hb dX4_number_88 rfl (lv_at hl 3 rfl) ?_
        refine lv_dup hx hb dX4_number_89 rfl ?_
        refine va_get (D := (dC, dI)) (ci := 4) (v := .int (nI K.length)) (C := RX4) (T := TX4) (N := 33) hx hb hts hinX4 hown hK hP 0 rfl rfl 15 (by decide) (hts _ (List.mem_of_getElem? (i := 1) rfl)) (fun _ h9 => h9) rfl dX4_number_90 ?_
        refine lv_iconst (v := 1) hx hb dX4_number_93 (by decide) ?_
        refine lv_iadd hx hb dX4_number_94 ?_
        refine lv_topi (fun y36 ey36 => ?_)
        obtain rfl : y36 = nI (K.length + 1) := ey36.trans (nI_1 K.length)
        refine va_put (D := (dC, dI)) (ci := 4) (v := .int (nI (K.length + 1))) (ty := .int) (C := RX4) (T := TX4) (N := 33) hx hb hts hinX4 tyX4 tyX4_ok nmX4 hown hK hP hD hS 0 rfl rfl 15 (by decide) (hts _ (List.mem_of_getElem? (i := 1) rfl)) (fun _ h9 => h9) rfl (by decide +kernel) rfl rfl (Nat.le_of_ble_eq_true rfl) dX4_number_95 (fun H locs hP hD hS => ?_)
        have hP : va_P (dC, dI) vwCl (mL AB cI cZ (va_up sc 15 (nI (K.length + 1))) (va_up (va_up (va_up (va_up ar 16 (upd na K.length (ar 23 k))) 17 (upd nf K.length (nI k))) 25 (upd nm (sam k) (nI K.length))) 26 wk)) H := hP
        have hD : va_D V (mL AB cI cZ (va_up sc 15 (nI (K.length + 1))) (va_up (va_up (va_up (va_up ar 16 (upd na K.length (ar 23 k))) 17 (upd nf K.length (nI k))) 25 (upd nm (sam k) (nI K.length))) 26 wk)) := hD
        refine lv_aload_n hx hb dX4_number_98 rfl (lv_at hl 3 rfl) ?_
        refine va_get (D := (dC, dI)) (ci := 4) (v := .ref (AB 23)) (C := RX4) (T := TX4) (N := 33) hx hb hts hinX4 hown hK hP 0 rfl rfl 23 (by decide) (hts _ (List.mem_of_getElem? (i := 7) rfl)) (fun _ h9 => h9) rfl dX4_number_99 ?_
        refine lv_iload_n hx hb dX4_number_102 rfl (lv_at hl 1 rfl) ?_
        refine va_iald hx hb hK hP 19 0 rfl rfl (vp_in_nI (show k < 64 by omega) (by decide)) dX4_number_103 ?_
        rw [nI_clamp (show k < 2 ^ 31 by have := (show k < 64 by omega); omega)]
        refine lv_if_lt (tgt := 132) hx hb dX4_number_104 (by decide) (fun c104_37 => ?_) (fun c104_37 => ?_)
        · skip
          refine lv_goto (tgt := 14) hx hb dX4_number_132 (by decide) ?_
          exact ih ls H locs ⟨S, (K ++ [k]), (upd na K.length (ar 23 k)), (upd nf K.length (nI k)), (upd nm (sam k) (nI K.length)), wk, by rw [List.length_append, List.length_singleton]; exact hP, by rw [List.length_append, List.length_singleton]; exact hD, hS, by rw [show 31 - (j + 1) = g by omega]; exact hN.leaf hbk hnew (Int32.not_le.mpr c104_37), lv_sub hl [3, 2] rfl⟩ (by omega)
        · skip
          have hd0 := Int32.not_lt.mp c104_37
          have hk16 := hdos k hk32.1 hk32.2 hbk hd0
          refine lv_aload_n hx hb dX4_number_107 rfl (lv_at hl 3 rfl) ?_
          refine va_get (D := (dC, dI)) (ci := 4) (v := .ref (AB 26)) (C := RX4) (T := TX4) (N := 33) hx hb hts hinX4 hown hK hP 0 rfl rfl 26 (by decide) (hts _ (List.mem_of_getElem? (i := 2) rfl)) (fun _ h9 => h9) rfl dX4_number_108 ?_
          refine lv_iload_n hx hb dX4_number_111 rfl (lv_at hl 2 rfl) ?_
          refine lv_iconst (v := 2) hx hb dX4_number_112 (by decide) ?_
          refine lv_iload_n hx hb dX4_number_113 rfl (lv_at hl 1 rfl) ?_
          refine lv_imul hx hb dX4_number_114 ?_
          refine lv_topi (fun y38 ey38 => ?_)
          obtain rfl : y38 = nI (2 * k) := ey38.trans (pk_mul 2 k)
          refine lv_iconst (v := 1) hx hb dX4_number_115 (by decide) ?_
          refine lv_iadd hx hb dX4_number_116 ?_
          refine lv_topi (fun y39 ey39 => ?_)
          obtain rfl : y39 = nI (2 * k + 1) := ey39.trans (nI_1 (2 * k))
          refine va_iast hx hb hK hP hD hS 22 0 rfl rfl (vp_in_nI (show S.length < 64 by omega) (by decide)) dX4_number_117 (fun H locs hP hD hS => ?_)
          rw [nI_clamp (show S.length < 2 ^ 31 by have := (show S.length < 64 by omega); omega)] at hP hD
          have hP : va_P (dC, dI) vwCl (mL AB cI cZ (va_up sc 15 (nI (K.length + 1))) (va_up (va_up (va_up (va_up ar 16 (upd na K.length (ar 23 k))) 17 (upd nf K.length (nI k))) 25 (upd nm (sam k) (nI K.length))) 26 (upd wk S.length (nI (2 * k + 1))))) H := hP
          have hD : va_D V (mL AB cI cZ (va_up sc 15 (nI (K.length + 1))) (va_up (va_up (va_up (va_up ar 16 (upd na K.length (ar 23 k))) 17 (upd nf K.length (nI k))) 25 (upd nm (sam k) (nI K.length))) 26 (upd wk S.length (nI (2 * k + 1))))) := hD
          refine lv_aload_n hx hb dX4_number_118 rfl (lv_at hl 3 rfl) ?_
          refine va_get (D := (dC, dI)) (ci := 4) (v := .ref (AB 26)) (C := RX4) (T := TX4) (N := 33) hx hb hts hinX4 hown hK hP 0 rfl rfl 26 (by decide) (hts _ (List.mem_of_getElem? (i := 2) rfl)) (fun _ h9 => h9) rfl dX4_number_119 ?_
          refine lv_iload_n hx hb dX4_number_122 rfl (lv_at hl 2 rfl) ?_
          refine lv_iconst (v := 1) hx hb dX4_number_123 (by decide) ?_
          refine lv_iadd hx hb dX4_number_124 ?_
          refine lv_topi (fun y40 ey40 => ?_)
          obtain rfl : y40 = nI (S.length + 1) := ey40.trans (nI_1 S.length)
          refine lv_iconst (v := 2) hx hb dX4_number_125 (by decide) ?_
          refine lv_iload_n hx hb dX4_number_126 rfl (lv_at hl 1 rfl) ?_
          refine lv_imul hx hb dX4_number_127 ?_
          refine lv_topi (fun y41 ey41 => ?_)
          obtain rfl : y41 = nI (2 * k) := ey41.trans (pk_mul 2 k)
          refine va_iast hx hb hK hP hD hS 22 0 rfl rfl (vp_in_nI (show (S.length + 1) < 64 by omega) (by decide)) dX4_number_128 (fun H locs hP hD hS => ?_)
          rw [nI_clamp (show (S.length + 1) < 2 ^ 31 by have := (show (S.length + 1) < 64 by omega); omega)] at hP hD
          have hP : va_P (dC, dI) vwCl (mL AB cI cZ (va_up sc 15 (nI (K.length + 1))) (va_up (va_up (va_up (va_up ar 16 (upd na K.length (ar 23 k))) 17 (upd nf K.length (nI k))) 25 (upd nm (sam k) (nI K.length))) 26 (upd (upd wk S.length (nI (2 * k + 1))) (S.length + 1) (nI (2 * k))))) H := hP
          have hD : va_D V (mL AB cI cZ (va_up sc 15 (nI (K.length + 1))) (va_up (va_up (va_up (va_up ar 16 (upd na K.length (ar 23 k))) 17 (upd nf K.length (nI k))) 25 (upd nm (sam k) (nI K.length))) 26 (upd (upd wk S.length (nI (2 * k + 1))) (S.length + 1) (nI (2 * k))))) := hD
          obtain ⟨y42, ey42⟩ : ∃ y : Int32, y = (nI S.length) + 2 := ⟨_, rfl⟩
          refine lv_iinc (v := y42) (lv' := [(1, .int y42), (3, .int (nI (sam k))), (2, .int (nI k)), (0, .ref (AB 0))]) hx hb dX4_number_129 hl (k := 2) rfl (by rw [ey42]; rfl) (by decide) rfl (fun ls hl => ?_)
          obtain rfl : y42 = nI (S.length + 2) := ey42.trans (nI_add S.length 2)
          refine lv_goto (tgt := 14) hx hb dX4_number_132 (by decide) ?_
          exact ih ls H locs ⟨(2 * k :: (2 * k + 1) :: S), (K ++ [k]), (upd na K.length (ar 23 k)), (upd nf K.length (nI k)), (upd nm (sam k) (nI K.length)), (upd (upd wk S.length (nI (2 * k + 1))) (S.length + 1) (nI (2 * k))), by rw [List.length_append, List.length_singleton]; exact hP, by rw [List.length_append, List.length_singleton]; exact hD, hS, by rw [show 31 - (j + 1) = g by omega]; exact hN.node hbk hnew hd0 hk16, lv_sub hl [3, 0] rfl⟩ (by omega)
