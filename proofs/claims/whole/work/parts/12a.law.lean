/-! ===== the law, case by case ===== -/
section LCMP
variable {p : Program} {l : Launch} {e : Env} {R : Room} {s : State} {m : MethodId} {args : Array Value} {below : List Frame} {meth : Method} {c : Code} {H : Heap} {locs : List Loc} {cells slots : Nat} {Q : State → Prop}
theorem lw_lcmp {cc : ByteArray} (hexec : p.tables.exec = Jvm.exec) (hb : c.code = cc) {x y : Int64} {pc : Nat} {ls : Array Slot} {rest : List Value} (hdg : decode cc pc = .ok (.lcmp, 1)) (hv : x = y)
    (k : W p l e R s m args below meth c H locs cells slots Q (F0 m (pc + 1) ls (.int 0 :: rest))) : W p l e R s m args below meth c H locs cells slots Q (F0 m pc ls (.long y :: .long x :: rest)) := by
  subst hv
  intro T hT X
  obtain ⟨t, a, b⟩ := k T hT X
  refine ⟨t, ?_, b⟩
  have hn : ¬ x < x := Int64.lt_irrefl
  jvm_step X.here [X.here.top, hexec, hb, hdg, hn]
  exact a
end LCMP
theorem ap_PR {D : va_G} {cl : List vw_C} {w r : va_W} {H : Heap} (h : va_P D cl (r ++ w) H) : va_P D cl w H := fun k q hk => h (r.length + k) q (by rw [List.getElem?_append_right (by omega), show r.length + k - r.length = k by omega]; exact hk)
theorem ap_DR {V : Nat → Prop} {w r : va_W} (h : va_D V (r ++ w)) : va_D V w := by
  have hw : ∀ (k : Nat) (q : Nat × va_E), w[k]? = some q → (r ++ w)[r.length + k]? = some q := fun k q h => by rw [List.getElem?_append_right (by omega), show r.length + k - r.length = k by omega]; exact h
  exact ⟨fun i j p q hi hj e => by have := h.1 _ _ _ _ (hw i p hi) (hw j q hj) e; omega, fun k q hk => h.2 _ _ (hw k q hk)⟩
theorem fa_all {V : Nat → Prop} {ws : va_W} {H0 H : Heap} {locs : List Loc} (hD : va_D V ws) (hS : va_S V H0 H locs) (hA : ∀ q, H0.size ≤ q → V q) : ∀ q, va_A ws H.size q → V q := by
  rintro q (⟨k, e, h⟩ | h)
  · exact hD.2 k _ h
  · exact hA q (Nat.le_trans hS.1 h)
theorem agr_k {es : List String} {oE : Option String} {v w : Int32} {S : HS → Prop} {T : MS → Prop} (h5 : es.length < 10) (h : oE = none ∧ w = v ∧ (∀ σ' τ', S σ' → T τ' → τ'.1 0 = 0 ∧ RelE σ' τ') ∨ ∃ k, k < es.length ∧ oE = es[k]? ∧ ∀ σ' τ', S σ' → T τ' → τ'.1 0 = nI (k + 1) ∧ RelE σ' τ') :
    ∃ k : Int32, ((oE = none ∧ k = 0) ∨ ∃ j, j < es.length ∧ oE = es[j]? ∧ k = nI (j + 1)) ∧ (∀ σ' τ', S σ' → T τ' → τ'.1 0 = k ∧ RelE σ' τ') ∧ (k = 0 → oE = none ∧ w = v) := by
  rcases h with ⟨h1, h2, h3⟩ | ⟨j, h1, h2, h3⟩
  · exact ⟨0, Or.inl ⟨h1, rfl⟩, h3, fun _ => ⟨h1, h2⟩⟩
  · refine ⟨nI (j + 1), Or.inr ⟨j, h1, h2, rfl⟩, h3, fun z => ?_⟩
    have := nI_inj (a := j + 1) (b := 0) (by omega) (by decide) z
    omega
def LC (p : Program) (l : Launch) (s : State) (m : MethodId) (meth : Method) (c : Code) (b L : Nat) (xs : Nat → Int32) (dC : Nat → ClassId) (dI : Nat → Nat → Nat) (cI cQ cZ cL : ClassId) : Prop :=
  p.tables.exec = Jvm.exec ∧ c.code = code ∧ c.maxLocals = 7 ∧ s.vm.findClass RL = some m.cls ∧ (∀ w ∈ wsL_law, w.before #[Value.ref b] s = true) ∧ (va_X b L xs s s.heap ∧ b < s.heap.size ∧ L ≤ 3072) ∧ l.stackTraces = false ∧
  KX dC dI cI cQ s ∧ va_K (dC, dI) vwCl (mT cI cZ) s ∧ va_K (dC, dI) vwCl [(cL, .long)] s ∧ HX (fun q => s.heap.size ≤ q) s s.heap ∧ NCs s
def LI (s : State) (b : Nat) (dC : Nat → ClassId) (dI : Nat → Nat → Nat) (A AB : Nat → Nat) (cI cQ cZ cL : ClassId) (o n : Nat) (H : Heap) (locs : List Loc) (ls : Array Slot) (σ : HS) (τ : MS) (f : Nat → Int64) : Prop :=
  va_P (dC, dI) vwCl (LW A cI cQ cL σ o f ++ mW AB cI cZ τ) H ∧ va_D (fun q => s.heap.size ≤ q) (LW A cI cQ cL σ o f ++ mW AB cI cZ τ) ∧ va_S (fun q => s.heap.size ≤ q) s.heap H locs ∧ lv_has ls 7 [(0, .ref b), (1, .ref (A 0)), (2, .ref (AB 0)), (3, .ref o), (4, .int (nI (6 * n)))] ∧ RelE σ τ
set_option maxHeartbeats 4000000 in
set_option maxRecDepth 100000 in
/-- clear -/
theorem lc_clear {p : Program} {l : Launch} {e : Env} {s : State} {m : MethodId} {below : List Frame} {meth : Method} {c : Code} {b L : Nat} {xs : Nat → Int32} {dC : Nat → ClassId} {dI : Nat → Nat → Nat} {A AB : Nat → Nat} {cI cQ cZ cL : ClassId} {o n : Nat} {H : Heap} {locs : List Loc} {ls : Array Slot} {σ : HS} {τ : MS} {f : Nat → Int64} {Q : State → Prop} (C : LC p l s m meth c b L xs dC dI cI cQ cZ cL) (hn : 6 * n + 6 ≤ L) (hI : LI s b dC dI A AB cI cQ cZ cL o n H locs ls σ τ f)
    (ih : ∀ (H : Heap) (locs : List Loc) (ls : Array Slot) (σ : HS) (τ : MS) (f : Nat → Int64), LI s b dC dI A AB cI cQ cZ cL o n H locs ls σ τ f → W p l e room_1 s m #[Value.ref b] below meth c H locs (52 + n + 1) (1167 + 6 * n + 6) Q (F0 m 1128 ls [])) :
    W p l e room_1 s m #[Value.ref b] below meth c H locs (52 + n) (1167 + 6 * n) Q (F0 m 128 ls []) := by
  obtain ⟨hx, hb, hml, hown, hts, ⟨hXs, hbl, hL⟩, hlt, hX, hKM, hKL, hH0, hN⟩ := C
  obtain ⟨hP, hD, hS, hl, hRE⟩ := hI
  obtain ⟨th, ef, se, C9, m9, c9, ta, tp, tq, ht9, hR⟩ := hRE
  have hbA : ¬ s.heap.size ≤ b := Nat.not_le.mpr hbl
  have hA : ∀ q : Nat, s.heap.size ≤ q → s.heap.size ≤ q := fun q h => h
  have hK := hX.1
  obtain ⟨v, S, T, hC, hM, hfin⟩ := a_clear (l := l) (dC := dC) (dI := dI) (A := A) (AB := AB) (cI := cI) (cQ := cQ) (cZ := cZ) hR
  refine lv_aload_n hx hb dL_law_128 rfl (lv_at hl 1 rfl) ?_
  have hP9 : va_P (dC, dI) vwCl (hfW A cI cQ σ ++ ([(o, .inl (cL, 1, .inr (.inl f)))] ++ mW AB cI cZ τ)) H := by rw [← List.append_assoc]; exact hP
  have hD9 : va_D (fun q => s.heap.size ≤ q) (hfW A cI cQ σ ++ ([(o, .inl (cL, 1, .inr (.inl f)))] ++ mW AB cI cZ τ)) := by rw [← List.append_assoc]; exact hD
  have hFa := fa_all hD9 hS hA
  have hPl := ap_P hP9
  have hDl := ap_D hD9
  have hFl := fa_all hDl hS hA
  refine va_calli (va_runV (As := []) (rest := []) ⟨hx, hb, hml, hown, hts⟩ (hC H.size) (cwV 0 hts gL_law_X3_clear rfl rfl rfl (by decide +kernel) ⟨Nat.le_of_ble_eq_true rfl, Nat.le_of_ble_eq_true rfl⟩) ⟨bl_F, va_recv hK hPl (ci := 3) (q0 := 0) rfl rfl, fun U hU hW => ⟨rfl, by rw [hU], by rw [hU]; exact hPl, hX.warm hW, hf_any hDl⟩⟩ rfl rfl hl.1 rfl (lv_room (Nat.le_of_ble_eq_true rfl)) dL_law_129 ⟨by show _ + 0 ≤ 613737; omega, by show _ + 0 ≤ 7254893; omega⟩) hS (fun q _ h => hFl q h) hFl (fun r σ1 t H locs ht hvm hw hB hz1 hk1 hS => ?_)
  obtain ⟨rfl, hSs⟩ := hw
  obtain ⟨hP1, hD1⟩ := hB
  rw [ht] at hP1
  obtain ⟨hP8, hD8⟩ := fr_L rfl hP9 hD9 hP1 hD1 hk1
  have hP : va_P (dC, dI) vwCl (LW A cI cQ cL σ1 o f ++ mW AB cI cZ τ) H := by rw [List.append_assoc]; exact hP8
  have hD : va_D (fun q => s.heap.size ≤ q) (LW A cI cQ cL σ1 o f ++ mW AB cI cZ τ) := by rw [List.append_assoc]; exact hD8.weaken (fun _ q _ h => hFa q.1 h)
  clear hP9 hD9 hP8 hD8 hP1 hD1 hk1 hz1 hPl hDl hFl hFa
  obtain ⟨v, rfl⟩ : ∃ v, v = r := ⟨r, rfl⟩
  refine lv_aload_n hx hb dL_law_132 rfl (lv_at hl 2 rfl) ?_
  have hFa := fa_all hD hS hA
  have hPm := ap_PR hP
  have hDm := ap_DR hD
  have hFm := fa_all hDm hS hA
  refine va_calli (va_runV (As := []) (rest := [.int v]) ⟨hx, hb, hml, hown, hts⟩ (hM H.size) (cwV 0 hts gL_law_X4_clear rfl rfl rfl (by decide +kernel) ⟨Nat.le_of_ble_eq_true rfl, Nat.le_of_ble_eq_true rfl⟩) ⟨bm_F, va_recv hKM hPm (ci := 4) (q0 := 0) rfl rfl, fun U hU hW => ⟨rfl, by rw [hU], by rw [hU]; exact hPm, va_K.moved hW.alike hKM, hf_any hDm⟩⟩ rfl rfl hl.1 rfl (lv_room (Nat.le_of_ble_eq_true rfl)) dL_law_133 ⟨by show _ + 0 ≤ 613737; omega, by show _ + 0 ≤ 7254893; omega⟩) hS (fun q _ h => hFm q h) hFm (fun r τ1 t H locs ht hvm hw hB hz1 hk1 hS => ?_)
  obtain ⟨rfl, hTt⟩ := hw
  obtain ⟨hP1, hD1⟩ := hB
  rw [ht] at hP1
  obtain ⟨hP, hD2⟩ := fr_R rfl hP hD hP1 hD1 hk1
  have hD := hD2.weaken (B := fun q => s.heap.size ≤ q) (fun _ q _ h => hFa q.1 h)
  clear hD2 hP1 hD1 hk1 hz1 hPm hDm hFm hFa
  refine lv_icmp_eq (tgt := 1128) hx hb dL_law_136 (by decide) (fun c136_0 => ?_) (fun c136_0 => ?_)
  · skip
    refine W.widen (k := 52 + n + 1) (n := 1167 + 6 * n + 6) (by omega) (by omega) ?_
    exact ih _ _ _ _ _ _ ⟨hP, hD, hS, lv_sub hl [0, 1, 2, 3, 4] rfl, hfin _ _ hSs hTt⟩
  · exact absurd rfl c136_0
set_option maxHeartbeats 4000000 in
set_option maxRecDepth 100000 in
/-- action -/
theorem lc_action {p : Program} {l : Launch} {e : Env} {s : State} {m : MethodId} {below : List Frame} {meth : Method} {c : Code} {b L : Nat} {xs : Nat → Int32} {dC : Nat → ClassId} {dI : Nat → Nat → Nat} {A AB : Nat → Nat} {cI cQ cZ cL : ClassId} {o n : Nat} {H : Heap} {locs : List Loc} {ls : Array Slot} {σ : HS} {τ : MS} {f : Nat → Int64} {Q : State → Prop} (C : LC p l s m meth c b L xs dC dI cI cQ cZ cL) (hn : 6 * n + 6 ≤ L) (hI : LI s b dC dI A AB cI cQ cZ cL o n H locs ls σ τ f)
    (ih : ∀ (H : Heap) (locs : List Loc) (ls : Array Slot) (σ : HS) (τ : MS) (f : Nat → Int64), LI s b dC dI A AB cI cQ cZ cL o n H locs ls σ τ f → W p l e room_1 s m #[Value.ref b] below meth c H locs (52 + n + 1) (1167 + 6 * n + 6) Q (F0 m 1128 ls [])) :
    W p l e room_1 s m #[Value.ref b] below meth c H locs (52 + n) (1167 + 6 * n) Q (F0 m 141 ls []) := by
  obtain ⟨hx, hb, hml, hown, hts, ⟨hXs, hbl, hL⟩, hlt, hX, hKM, hKL, hH0, hN⟩ := C
  obtain ⟨hP, hD, hS, hl, hRE⟩ := hI
  obtain ⟨th, ef, se, C9, m9, c9, ta, tp, tq, ht9, hR⟩ := hRE
  have hbA : ¬ s.heap.size ≤ b := Nat.not_le.mpr hbl
  have hA : ∀ q : Nat, s.heap.size ≤ q → s.heap.size ≤ q := fun q h => h
  have hK := hX.1
  obtain ⟨oE, v, S, w, T, hC, hM, hdis⟩ := a_action (l := l) (dC := dC) (dI := dI) (A := A) (AB := AB) (cI := cI) (cQ := cQ) (cZ := cZ) hR hlt (xs (6 * n + 1)) (xs (6 * n + 2)) (xs (6 * n + 3)) (xs (6 * n + 4))
  obtain ⟨k, hk0, hfin, hkz⟩ := agr_k (by decide) hdis
  refine lv_aload_n hx hb dL_law_141 rfl (lv_at hl 1 rfl) ?_
  refine lv_aload_n hx hb dL_law_142 rfl (lv_at hl 0 rfl) ?_
  refine lv_iload hx hb dL_law_143 (lv_at hl 4 rfl) ?_
  refine lv_iconst (v := 1) hx hb dL_law_145 (by decide) ?_
  refine lv_iadd hx hb dL_law_146 ?_
  refine lv_topi (fun y0 ey0 => ?_)
  obtain rfl : y0 = nI (6 * n + 1) := ey0.trans (nI_add (6 * n) 1)
  refine va_sld hx hb hXs hbl hbA hS (vp_in_nI (show 6 * n + 1 < L by omega) (by omega)) dL_law_147 ?_
  rw [nI_clamp (show 6 * n + 1 < 2 ^ 31 by omega)]
  refine lv_aload_n hx hb dL_law_148 rfl (lv_at hl 0 rfl) ?_
  refine lv_iload hx hb dL_law_149 (lv_at hl 4 rfl) ?_
  refine lv_iconst (v := 2) hx hb dL_law_151 (by decide) ?_
  refine lv_iadd hx hb dL_law_152 ?_
  refine lv_topi (fun y1 ey1 => ?_)
  obtain rfl : y1 = nI (6 * n + 2) := ey1.trans (nI_add (6 * n) 2)
  refine va_sld hx hb hXs hbl hbA hS (vp_in_nI (show 6 * n + 2 < L by omega) (by omega)) dL_law_153 ?_
  rw [nI_clamp (show 6 * n + 2 < 2 ^ 31 by omega)]
  refine lv_aload_n hx hb dL_law_154 rfl (lv_at hl 0 rfl) ?_
  refine lv_iload hx hb dL_law_155 (lv_at hl 4 rfl) ?_
  refine lv_iconst (v := 3) hx hb dL_law_157 (by decide) ?_
  refine lv_iadd hx hb dL_law_158 ?_
  refine lv_topi (fun y2 ey2 => ?_)
  obtain rfl : y2 = nI (6 * n + 3) := ey2.trans (nI_add (6 * n) 3)
  refine va_sld hx hb hXs hbl hbA hS (vp_in_nI (show 6 * n + 3 < L by omega) (by omega)) dL_law_159 ?_
  rw [nI_clamp (show 6 * n + 3 < 2 ^ 31 by omega)]
  refine lv_aload_n hx hb dL_law_160 rfl (lv_at hl 0 rfl) ?_
  refine lv_iload hx hb dL_law_161 (lv_at hl 4 rfl) ?_
  refine lv_iconst (v := 4) hx hb dL_law_163 (by decide) ?_
  refine lv_iadd hx hb dL_law_164 ?_
  refine lv_topi (fun y3 ey3 => ?_)
  obtain rfl : y3 = nI (6 * n + 4) := ey3.trans (nI_add (6 * n) 4)
  refine va_sld hx hb hXs hbl hbA hS (vp_in_nI (show 6 * n + 4 < L by omega) (by omega)) dL_law_165 ?_
  rw [nI_clamp (show 6 * n + 4 < 2 ^ 31 by omega)]
  refine lv_aload_n hx hb dL_law_166 rfl (lv_at hl 3 rfl) ?_
  have hFa := fa_all hD hS hA
  have hPl := ap_P hP
  have hDl := ap_D hD
  have hFl := fa_all hDl hS hA
  have hHl : HX (va_A (LW A cI cQ cL σ o f) H.size) s H := (hH0.kept fun q h1 h2 => hS.2.1 q h1 h2).narrow hFl
  refine va_calli (vx_runSW (As := [.ref (A 0), .int (xs (6 * n + 1)), .int (xs (6 * n + 2)), .int (xs (6 * n + 3)), .int (xs (6 * n + 4)), .ref o]) (rest := []) ⟨hx, hb, hml, hown, hts⟩ (w_action l dC dI A cI cQ cL σ (xs (6 * n + 1)) (xs (6 * n + 2)) (xs (6 * n + 3)) (xs (6 * n + 4)) o f H.size hC hk0) (vx_cwSW 6 hts gL_law_L_action rfl rfl rfl (by decide +kernel) ⟨Nat.le_of_ble_eq_true rfl, Nat.le_of_ble_eq_true rfl⟩) ⟨bl_L, fun U hU hW => ⟨rfl, by rw [hU], by rw [hU]; exact hPl, hX.warm hW, va_K.moved hW.alike hKL, hf_any hDl, by rw [hU]; exact HX.moved hW.alike hHl, hN.moved hW.alike⟩⟩ rfl rfl hl.1 rfl (lv_room (Nat.le_of_ble_eq_true rfl)) dL_law_167 ⟨by show _ + 1 ≤ 613737; omega, by show _ + 6 ≤ 7254893; omega⟩) hS (fun q _ h => hFl q h) hFl (fun r u t H locs ht hvm hw hB hz1 hk1 hS => ?_)
  obtain ⟨σ1, f1⟩ := u
  obtain ⟨rfl, hSs, hout⟩ := hw
  obtain ⟨hP1, hD1⟩ := hB
  rw [ht] at hP1
  obtain ⟨hP, hD2⟩ := fr_L rfl hP hD hP1 hD1 hk1
  have hD := hD2.weaken (B := fun q => s.heap.size ≤ q) (fun _ q _ h => hFa q.1 h)
  clear hD2 hP1 hD1 hk1 hz1 hPl hDl hFl hFa hHl
  refine lv_istore (lv' := [(5, .int r), (0, .ref b), (1, .ref (A 0)), (2, .ref (AB 0)), (3, .ref o), (4, .int (nI (6 * n)))]) hx hb dL_law_170 hl (by decide) rfl (fun ls hl => ?_)
  refine lv_aload_n hx hb dL_law_172 rfl (lv_at hl 3 rfl) ?_
  refine lv_aload_n hx hb dL_law_173 rfl (lv_at hl 1 rfl) ?_
  refine lv_iload hx hb dL_law_174 (lv_at hl 5 rfl) ?_
  refine lv_iconst (v := 1) hx hb dL_law_176 (by decide) ?_
  refine lv_iadd hx hb dL_law_177 ?_
  refine lv_topi (fun y4 ey4 => ?_)
  obtain rfl : y4 = nI (6 * n + 1) := ey4.trans (nI_add (6 * n) 1)
  refine va_sld hx hb hXs hbl hbA hS (vp_in_nI (show 6 * n + 1 < L by omega) (by omega)) dL_law_178 ?_
  rw [nI_clamp (show 6 * n + 1 < 2 ^ 31 by omega)]
  refine lv_aload_n hx hb dL_law_179 rfl (lv_at hl 1 rfl) ?_
  refine lv_iload hx hb dL_law_180 (lv_at hl 5 rfl) ?_
  refine lv_iconst (v := 2) hx hb dL_law_182 (by decide) ?_
  refine lv_iadd hx hb dL_law_183 ?_
  refine lv_topi (fun y5 ey5 => ?_)
  obtain rfl : y5 = nI (6 * n + 2) := ey5.trans (nI_add (6 * n) 2)
  refine va_sld hx hb hXs hbl hbA hS (vp_in_nI (show 6 * n + 2 < L by omega) (by omega)) dL_law_184 ?_
  rw [nI_clamp (show 6 * n + 2 < 2 ^ 31 by omega)]
  refine lv_aload_n hx hb dL_law_185 rfl (lv_at hl 1 rfl) ?_
  refine lv_iload hx hb dL_law_186 (lv_at hl 5 rfl) ?_
  refine lv_iconst (v := 3) hx hb dL_law_188 (by decide) ?_
  refine lv_iadd hx hb dL_law_189 ?_
  refine lv_topi (fun y6 ey6 => ?_)
  obtain rfl : y6 = nI (6 * n + 3) := ey6.trans (nI_add (6 * n) 3)
  refine va_sld hx hb hXs hbl hbA hS (vp_in_nI (show 6 * n + 3 < L by omega) (by omega)) dL_law_190 ?_
  rw [nI_clamp (show 6 * n + 3 < 2 ^ 31 by omega)]
  refine lv_aload_n hx hb dL_law_191 rfl (lv_at hl 1 rfl) ?_
  refine lv_iload hx hb dL_law_192 (lv_at hl 5 rfl) ?_
  refine lv_iconst (v := 4) hx hb dL_law_194 (by decide) ?_
  refine lv_iadd hx hb dL_law_195 ?_
  refine lv_topi (fun y7 ey7 => ?_)
  obtain rfl : y7 = nI (6 * n + 4) := ey7.trans (nI_add (6 * n) 4)
  refine va_sld hx hb hXs hbl hbA hS (vp_in_nI (show 6 * n + 4 < L by omega) (by omega)) dL_law_196 ?_
  rw [nI_clamp (show 6 * n + 4 < 2 ^ 31 by omega)]
  obtain ⟨k, rfl⟩ : ∃ k, k = r := ⟨r, rfl⟩
  have hFa := fa_all hD hS hA
  have hPm := ap_PR hP
  have hDm := ap_DR hD
  have hFm := fa_all hDm hS hA
  refine va_calli (va_runV (As := [.int (xs (6 * n + 1)), .int (xs (6 * n + 2)), .int (xs (6 * n + 3)), .int (xs (6 * n + 4))]) (rest := []) ⟨hx, hb, hml, hown, hts⟩ (hM H.size) (cwV 4 hts gL_law_X4_action rfl rfl rfl (by decide +kernel) ⟨Nat.le_of_ble_eq_true rfl, Nat.le_of_ble_eq_true rfl⟩) ⟨bm_F, va_recv hKM hPm (ci := 4) (q0 := 0) rfl rfl, fun U hU hW => ⟨rfl, by rw [hU], by rw [hU]; exact hPm, va_K.moved hW.alike hKM, hf_any hDm⟩⟩ rfl rfl hl.1 rfl (lv_room (Nat.le_of_ble_eq_true rfl)) dL_law_197 ⟨by show _ + 0 ≤ 613737; omega, by show _ + 0 ≤ 7254893; omega⟩) hS (fun q _ h => hFm q h) hFm (fun r τ1 t H locs ht hvm hw hB hz1 hk1 hS => ?_)
  obtain ⟨rfl, hTt⟩ := hw
  obtain ⟨hP1, hD1⟩ := hB
  rw [ht] at hP1
  obtain ⟨hP, hD2⟩ := fr_R rfl hP hD hP1 hD1 hk1
  have hD := hD2.weaken (B := fun q => s.heap.size ≤ q) (fun _ q _ h => hFa q.1 h)
  clear hD2 hP1 hD1 hk1 hz1 hPm hDm hFm hFa
  refine lv_istore (lv' := [(6, .int r), (5, .int k), (0, .ref b), (1, .ref (A 0)), (2, .ref (AB 0)), (3, .ref o), (4, .int (nI (6 * n)))]) hx hb dL_law_200 hl (by decide) rfl (fun ls hl => ?_)
  refine lv_aload_n hx hb dL_law_202 rfl (lv_at hl 4 rfl) ?_
  have hPm := ap_PR hP
  refine vp_callSi (W.runV (As := []) (rest := []) ⟨hx, hb, hml, hown, hts⟩ (m_thrown l dC dI AB cI cZ τ1) (cwV 0 hts gL_law_X4_thrown rfl rfl rfl (by decide +kernel) ⟨Nat.le_of_ble_eq_true rfl, Nat.le_of_ble_eq_true rfl⟩) ⟨bm_P, va_recv hKM hPm (ci := 4) (q0 := 0) rfl rfl, fun U hU hW => ⟨rfl, by rw [hU]; exact hPm, va_K.moved hW.alike hKM⟩⟩ rfl rfl hl.1 rfl (lv_room (Nat.le_of_ble_eq_true rfl)) dL_law_203 ⟨by show _ + 0 ≤ 613737; omega, by show _ + 0 ≤ 7254893; omega⟩) (fun r2 er => ?_)
  obtain ⟨hthr, hRE⟩ := hfin _ _ hSs hTt
  have er : r2 = k := er.trans hthr
  clear hPm
  refine lv_iload hx hb dL_law_206 (lv_at hl 1 rfl) ?_
  refine lv_icmp_eq (tgt := 213) hx hb dL_law_208 (by decide) (fun c208_8 => ?_) (fun c208_8 => ?_)
  · skip
    refine lv_iload hx hb dL_law_213 (lv_at hl 1 rfl) ?_
    refine lv_if_ne (tgt := 237) hx hb dL_law_215 (by decide) (fun c215_9 => ?_) (fun c215_9 => ?_)
    · skip
      refine lv_goto (tgt := 1128) hx hb dL_law_237 (by decide) ?_
      exact ih _ _ _ _ _ _ ⟨hP, hD, hS, lv_sub hl [2, 3, 4, 5, 6] rfl, hRE⟩
    · skip
      refine lv_aload_n hx hb dL_law_218 rfl (lv_at hl 5 rfl) ?_
      refine lv_iconst (v := 0) hx hb dL_law_219 (by decide) ?_
      have hz0 : k = 0 := c215_9
      obtain ⟨hnone, hwv⟩ := hkz hz0
      have hout := hout hnone
      refine va_lald hx hb hKL hP 24 0 rfl rfl in01 dL_law_220 ?_
      refine lv_iload hx hb dL_law_221 (lv_at hl 0 rfl) ?_
      refine lv_if_eq (tgt := 230) hx hb dL_law_223 (by decide) (fun c223_10 => ?_) (fun c223_10 => ?_)
      · skip
        refine lv_lconst (v := 0) hx hb dL_law_230 rfl ?_
        refine lw_lcmp hx hb dL_law_231 (hout.trans (by unfold lb; rw [← hwv, if_pos c223_10])) ?_
        refine lv_if_eq (tgt := 237) hx hb dL_law_232 (by decide) (fun c232_11 => ?_) (fun c232_11 => ?_)
        · skip
          refine lv_goto (tgt := 1128) hx hb dL_law_237 (by decide) ?_
          exact ih _ _ _ _ _ _ ⟨hP, hD, hS, lv_sub hl [2, 3, 4, 5, 6] rfl, hRE⟩
        · exact absurd rfl c232_11
      · skip
        refine lv_lconst (v := 1) hx hb dL_law_226 rfl ?_
        refine lv_goto (tgt := 231) hx hb dL_law_227 (by decide) ?_
        refine lw_lcmp hx hb dL_law_231 (hout.trans (by unfold lb; rw [← hwv, if_neg c223_10])) ?_
        refine lv_if_eq (tgt := 237) hx hb dL_law_232 (by decide) (fun c232_12 => ?_) (fun c232_12 => ?_)
        · skip
          refine lv_goto (tgt := 1128) hx hb dL_law_237 (by decide) ?_
          exact ih _ _ _ _ _ _ ⟨hP, hD, hS, lv_sub hl [2, 3, 4, 5, 6] rfl, hRE⟩
        · exact absurd rfl c232_12
  · exact absurd er c208_8
set_option maxHeartbeats 4000000 in
set_option maxRecDepth 100000 in
/-- effect_f -/
theorem lc_effect_f {p : Program} {l : Launch} {e : Env} {s : State} {m : MethodId} {below : List Frame} {meth : Method} {c : Code} {b L : Nat} {xs : Nat → Int32} {dC : Nat → ClassId} {dI : Nat → Nat → Nat} {A AB : Nat → Nat} {cI cQ cZ cL : ClassId} {o n : Nat} {H : Heap} {locs : List Loc} {ls : Array Slot} {σ : HS} {τ : MS} {f : Nat → Int64} {Q : State → Prop} (C : LC p l s m meth c b L xs dC dI cI cQ cZ cL) (hn : 6 * n + 6 ≤ L) (hI : LI s b dC dI A AB cI cQ cZ cL o n H locs ls σ τ f) (hz3 : xs (6 * n + 3) = 0)
    (ih : ∀ (H : Heap) (locs : List Loc) (ls : Array Slot) (σ : HS) (τ : MS) (f : Nat → Int64), LI s b dC dI A AB cI cQ cZ cL o n H locs ls σ τ f → W p l e room_1 s m #[Value.ref b] below meth c H locs (52 + n + 1) (1167 + 6 * n + 6) Q (F0 m 1128 ls [])) :
    W p l e room_1 s m #[Value.ref b] below meth c H locs (52 + n) (1167 + 6 * n) Q (F0 m 240 ls []) := by
  obtain ⟨hx, hb, hml, hown, hts, ⟨hXs, hbl, hL⟩, hlt, hX, hKM, hKL, hH0, hN⟩ := C
  obtain ⟨hP, hD, hS, hl, hRE⟩ := hI
  obtain ⟨th, ef, se, C9, m9, c9, ta, tp, tq, ht9, hR⟩ := hRE
  have hbA : ¬ s.heap.size ≤ b := Nat.not_le.mpr hbl
  have hA : ∀ q : Nat, s.heap.size ≤ q → s.heap.size ≤ q := fun q h => h
  have hK := hX.1
  obtain ⟨oE, v, S, w, T, hC, hM, hdis⟩ := a_effect (l := l) (dC := dC) (dI := dI) (A := A) (AB := AB) (cI := cI) (cQ := cQ) (cZ := cZ) hR hlt (xs (6 * n + 1)) (xs (6 * n + 2)) false (xs (6 * n + 4)) (xs (6 * n + 5))
  obtain ⟨k, hk0, hfin, hkz⟩ := agr_k (by decide) hdis
  refine lv_aload_n hx hb dL_law_240 rfl (lv_at hl 1 rfl) ?_
  refine lv_aload_n hx hb dL_law_241 rfl (lv_at hl 0 rfl) ?_
  refine lv_iload hx hb dL_law_242 (lv_at hl 4 rfl) ?_
  refine lv_iconst (v := 1) hx hb dL_law_244 (by decide) ?_
  refine lv_iadd hx hb dL_law_245 ?_
  refine lv_topi (fun y0 ey0 => ?_)
  obtain rfl : y0 = nI (6 * n + 1) := ey0.trans (nI_add (6 * n) 1)
  refine va_sld hx hb hXs hbl hbA hS (vp_in_nI (show 6 * n + 1 < L by omega) (by omega)) dL_law_246 ?_
  rw [nI_clamp (show 6 * n + 1 < 2 ^ 31 by omega)]
  refine lv_aload_n hx hb dL_law_247 rfl (lv_at hl 0 rfl) ?_
  refine lv_iload hx hb dL_law_248 (lv_at hl 4 rfl) ?_
  refine lv_iconst (v := 2) hx hb dL_law_250 (by decide) ?_
  refine lv_iadd hx hb dL_law_251 ?_
  refine lv_topi (fun y1 ey1 => ?_)
  obtain rfl : y1 = nI (6 * n + 2) := ey1.trans (nI_add (6 * n) 2)
  refine va_sld hx hb hXs hbl hbA hS (vp_in_nI (show 6 * n + 2 < L by omega) (by omega)) dL_law_252 ?_
  rw [nI_clamp (show 6 * n + 2 < 2 ^ 31 by omega)]
  refine lv_aload_n hx hb dL_law_253 rfl (lv_at hl 0 rfl) ?_
  refine lv_iload hx hb dL_law_254 (lv_at hl 4 rfl) ?_
  refine lv_iconst (v := 3) hx hb dL_law_256 (by decide) ?_
  refine lv_iadd hx hb dL_law_257 ?_
  refine lv_topi (fun y2 ey2 => ?_)
  obtain rfl : y2 = nI (6 * n + 3) := ey2.trans (nI_add (6 * n) 3)
  refine va_sld hx hb hXs hbl hbA hS (vp_in_nI (show 6 * n + 3 < L by omega) (by omega)) dL_law_258 ?_
  rw [nI_clamp (show 6 * n + 3 < 2 ^ 31 by omega)]
  refine lv_if_eq (tgt := 266) hx hb dL_law_259 (by decide) (fun c259_3 => ?_) (fun c259_3 => ?_)
  · skip
    refine lv_iconst (v := 0) hx hb dL_law_266 (by decide) ?_
    refine lv_aload_n hx hb dL_law_267 rfl (lv_at hl 0 rfl) ?_
    refine lv_iload hx hb dL_law_268 (lv_at hl 4 rfl) ?_
    refine lv_iconst (v := 4) hx hb dL_law_270 (by decide) ?_
    refine lv_iadd hx hb dL_law_271 ?_
    refine lv_topi (fun y4 ey4 => ?_)
    obtain rfl : y4 = nI (6 * n + 4) := ey4.trans (nI_add (6 * n) 4)
    refine va_sld hx hb hXs hbl hbA hS (vp_in_nI (show 6 * n + 4 < L by omega) (by omega)) dL_law_272 ?_
    rw [nI_clamp (show 6 * n + 4 < 2 ^ 31 by omega)]
    refine lv_aload_n hx hb dL_law_273 rfl (lv_at hl 0 rfl) ?_
    refine lv_iload hx hb dL_law_274 (lv_at hl 4 rfl) ?_
    refine lv_iconst (v := 5) hx hb dL_law_276 (by decide) ?_
    refine lv_iadd hx hb dL_law_277 ?_
    refine lv_topi (fun y5 ey5 => ?_)
    obtain rfl : y5 = nI (6 * n + 5) := ey5.trans (nI_add (6 * n) 5)
    refine va_sld hx hb hXs hbl hbA hS (vp_in_nI (show 6 * n + 5 < L by omega) (by omega)) dL_law_278 ?_
    rw [nI_clamp (show 6 * n + 5 < 2 ^ 31 by omega)]
    refine lv_aload_n hx hb dL_law_279 rfl (lv_at hl 3 rfl) ?_
    have hFa := fa_all hD hS hA
    have hPl := ap_P hP
    have hDl := ap_D hD
    have hFl := fa_all hDl hS hA
    have hHl : HX (va_A (LW A cI cQ cL σ o f) H.size) s H := (hH0.kept fun q h1 h2 => hS.2.1 q h1 h2).narrow hFl
    refine va_calli (vx_runSW (As := [.ref (A 0), .int (xs (6 * n + 1)), .int (xs (6 * n + 2)), .int (b2i false), .int (xs (6 * n + 4)), .int (xs (6 * n + 5)), .ref o]) (rest := []) ⟨hx, hb, hml, hown, hts⟩ (w_effect l dC dI A cI cQ cL σ (xs (6 * n + 1)) (xs (6 * n + 2)) false (xs (6 * n + 4)) (xs (6 * n + 5)) o f H.size hC hk0) (vx_cwSW 7 hts gL_law_L_effect rfl rfl rfl (by decide +kernel) ⟨Nat.le_of_ble_eq_true rfl, Nat.le_of_ble_eq_true rfl⟩) ⟨bl_L, fun U hU hW => ⟨rfl, by rw [hU], by rw [hU]; exact hPl, hX.warm hW, va_K.moved hW.alike hKL, hf_any hDl, by rw [hU]; exact HX.moved hW.alike hHl, hN.moved hW.alike⟩⟩ rfl rfl hl.1 rfl (lv_room (Nat.le_of_ble_eq_true rfl)) dL_law_280 ⟨by show _ + 1 ≤ 613737; omega, by show _ + 6 ≤ 7254893; omega⟩) hS (fun q _ h => hFl q h) hFl (fun r u t H locs ht hvm hw hB hz1 hk1 hS => ?_)
    obtain ⟨σ1, f1⟩ := u
    obtain ⟨rfl, hSs, hout⟩ := hw
    obtain ⟨hP1, hD1⟩ := hB
    rw [ht] at hP1
    obtain ⟨hP, hD2⟩ := fr_L rfl hP hD hP1 hD1 hk1
    have hD := hD2.weaken (B := fun q => s.heap.size ≤ q) (fun _ q _ h => hFa q.1 h)
    clear hD2 hP1 hD1 hk1 hz1 hPl hDl hFl hFa hHl
    refine lv_istore (lv' := [(5, .int r), (0, .ref b), (1, .ref (A 0)), (2, .ref (AB 0)), (3, .ref o), (4, .int (nI (6 * n)))]) hx hb dL_law_283 hl (by decide) rfl (fun ls hl => ?_)
    refine lv_aload_n hx hb dL_law_285 rfl (lv_at hl 3 rfl) ?_
    refine lv_aload_n hx hb dL_law_286 rfl (lv_at hl 1 rfl) ?_
    refine lv_iload hx hb dL_law_287 (lv_at hl 5 rfl) ?_
    refine lv_iconst (v := 1) hx hb dL_law_289 (by decide) ?_
    refine lv_iadd hx hb dL_law_290 ?_
    refine lv_topi (fun y6 ey6 => ?_)
    obtain rfl : y6 = nI (6 * n + 1) := ey6.trans (nI_add (6 * n) 1)
    refine va_sld hx hb hXs hbl hbA hS (vp_in_nI (show 6 * n + 1 < L by omega) (by omega)) dL_law_291 ?_
    rw [nI_clamp (show 6 * n + 1 < 2 ^ 31 by omega)]
    refine lv_aload_n hx hb dL_law_292 rfl (lv_at hl 1 rfl) ?_
    refine lv_iload hx hb dL_law_293 (lv_at hl 5 rfl) ?_
    refine lv_iconst (v := 2) hx hb dL_law_295 (by decide) ?_
    refine lv_iadd hx hb dL_law_296 ?_
    refine lv_topi (fun y7 ey7 => ?_)
    obtain rfl : y7 = nI (6 * n + 2) := ey7.trans (nI_add (6 * n) 2)
    refine va_sld hx hb hXs hbl hbA hS (vp_in_nI (show 6 * n + 2 < L by omega) (by omega)) dL_law_297 ?_
    rw [nI_clamp (show 6 * n + 2 < 2 ^ 31 by omega)]
    refine lv_aload_n hx hb dL_law_298 rfl (lv_at hl 1 rfl) ?_
    refine lv_iload hx hb dL_law_299 (lv_at hl 5 rfl) ?_
    refine lv_iconst (v := 3) hx hb dL_law_301 (by decide) ?_
    refine lv_iadd hx hb dL_law_302 ?_
    refine lv_topi (fun y8 ey8 => ?_)
    obtain rfl : y8 = nI (6 * n + 3) := ey8.trans (nI_add (6 * n) 3)
    refine va_sld hx hb hXs hbl hbA hS (vp_in_nI (show 6 * n + 3 < L by omega) (by omega)) dL_law_303 ?_
    rw [nI_clamp (show 6 * n + 3 < 2 ^ 31 by omega)]
    refine lv_if_eq (tgt := 311) hx hb dL_law_304 (by decide) (fun c304_9 => ?_) (fun c304_9 => ?_)
    · skip
      refine lv_iconst (v := 0) hx hb dL_law_311 (by decide) ?_
      refine lv_aload_n hx hb dL_law_312 rfl (lv_at hl 1 rfl) ?_
      refine lv_iload hx hb dL_law_313 (lv_at hl 5 rfl) ?_
      refine lv_iconst (v := 4) hx hb dL_law_315 (by decide) ?_
      refine lv_iadd hx hb dL_law_316 ?_
      refine lv_topi (fun y10 ey10 => ?_)
      obtain rfl : y10 = nI (6 * n + 4) := ey10.trans (nI_add (6 * n) 4)
      refine va_sld hx hb hXs hbl hbA hS (vp_in_nI (show 6 * n + 4 < L by omega) (by omega)) dL_law_317 ?_
      rw [nI_clamp (show 6 * n + 4 < 2 ^ 31 by omega)]
      refine lv_aload_n hx hb dL_law_318 rfl (lv_at hl 1 rfl) ?_
      refine lv_iload hx hb dL_law_319 (lv_at hl 5 rfl) ?_
      refine lv_iconst (v := 5) hx hb dL_law_321 (by decide) ?_
      refine lv_iadd hx hb dL_law_322 ?_
      refine lv_topi (fun y11 ey11 => ?_)
      obtain rfl : y11 = nI (6 * n + 5) := ey11.trans (nI_add (6 * n) 5)
      refine va_sld hx hb hXs hbl hbA hS (vp_in_nI (show 6 * n + 5 < L by omega) (by omega)) dL_law_323 ?_
      rw [nI_clamp (show 6 * n + 5 < 2 ^ 31 by omega)]
      obtain ⟨k, rfl⟩ : ∃ k, k = r := ⟨r, rfl⟩
      have hFa := fa_all hD hS hA
      have hPm := ap_PR hP
      have hDm := ap_DR hD
      have hFm := fa_all hDm hS hA
      refine va_calli (va_runV (As := [.int (xs (6 * n + 1)), .int (xs (6 * n + 2)), .int (b2i false), .int (xs (6 * n + 4)), .int (xs (6 * n + 5))]) (rest := []) ⟨hx, hb, hml, hown, hts⟩ (hM H.size) (cwV 5 hts gL_law_X4_effect rfl rfl rfl (by decide +kernel) ⟨Nat.le_of_ble_eq_true rfl, Nat.le_of_ble_eq_true rfl⟩) ⟨bm_F, va_recv hKM hPm (ci := 4) (q0 := 0) rfl rfl, fun U hU hW => ⟨rfl, by rw [hU], by rw [hU]; exact hPm, va_K.moved hW.alike hKM, hf_any hDm⟩⟩ rfl rfl hl.1 rfl (lv_room (Nat.le_of_ble_eq_true rfl)) dL_law_324 ⟨by show _ + 0 ≤ 613737; omega, by show _ + 0 ≤ 7254893; omega⟩) hS (fun q _ h => hFm q h) hFm (fun r τ1 t H locs ht hvm hw hB hz1 hk1 hS => ?_)
      obtain ⟨rfl, hTt⟩ := hw
      obtain ⟨hP1, hD1⟩ := hB
      rw [ht] at hP1
      obtain ⟨hP, hD2⟩ := fr_R rfl hP hD hP1 hD1 hk1
      have hD := hD2.weaken (B := fun q => s.heap.size ≤ q) (fun _ q _ h => hFa q.1 h)
      clear hD2 hP1 hD1 hk1 hz1 hPm hDm hFm hFa
      refine lv_istore (lv' := [(6, .int r), (5, .int k), (0, .ref b), (1, .ref (A 0)), (2, .ref (AB 0)), (3, .ref o), (4, .int (nI (6 * n)))]) hx hb dL_law_327 hl (by decide) rfl (fun ls hl => ?_)
      refine lv_aload_n hx hb dL_law_329 rfl (lv_at hl 4 rfl) ?_
      have hPm := ap_PR hP
      refine vp_callSi (W.runV (As := []) (rest := []) ⟨hx, hb, hml, hown, hts⟩ (m_thrown l dC dI AB cI cZ τ1) (cwV 0 hts gL_law_X4_thrown rfl rfl rfl (by decide +kernel) ⟨Nat.le_of_ble_eq_true rfl, Nat.le_of_ble_eq_true rfl⟩) ⟨bm_P, va_recv hKM hPm (ci := 4) (q0 := 0) rfl rfl, fun U hU hW => ⟨rfl, by rw [hU]; exact hPm, va_K.moved hW.alike hKM⟩⟩ rfl rfl hl.1 rfl (lv_room (Nat.le_of_ble_eq_true rfl)) dL_law_330 ⟨by show _ + 0 ≤ 613737; omega, by show _ + 0 ≤ 7254893; omega⟩) (fun r2 er => ?_)
      obtain ⟨hthr, hRE⟩ := hfin _ _ hSs hTt
      have er : r2 = k := er.trans hthr
      clear hPm
      refine lv_iload hx hb dL_law_333 (lv_at hl 1 rfl) ?_
      refine lv_icmp_eq (tgt := 340) hx hb dL_law_335 (by decide) (fun c335_12 => ?_) (fun c335_12 => ?_)
      · skip
        refine lv_iload hx hb dL_law_340 (lv_at hl 1 rfl) ?_
        refine lv_if_ne (tgt := 357) hx hb dL_law_342 (by decide) (fun c342_13 => ?_) (fun c342_13 => ?_)
        · skip
          refine lv_goto (tgt := 1128) hx hb dL_law_357 (by decide) ?_
          exact ih _ _ _ _ _ _ ⟨hP, hD, hS, lv_sub hl [2, 3, 4, 5, 6] rfl, hRE⟩
        · skip
          refine lv_aload_n hx hb dL_law_345 rfl (lv_at hl 5 rfl) ?_
          refine lv_iconst (v := 0) hx hb dL_law_346 (by decide) ?_
          have hz0 : k = 0 := c342_13
          obtain ⟨hnone, hwv⟩ := hkz hz0
          have hout := hout hnone
          refine va_lald hx hb hKL hP 24 0 rfl rfl in01 dL_law_347 ?_
          refine lv_iload hx hb dL_law_348 (lv_at hl 0 rfl) ?_
          refine lv_i2l (v := r.toInt64) hx hb dL_law_350 rfl ?_
          refine lw_lcmp hx hb dL_law_351 (hout.trans (by rw [hwv])) ?_
          refine lv_if_eq (tgt := 357) hx hb dL_law_352 (by decide) (fun c352_14 => ?_) (fun c352_14 => ?_)
          · skip
            refine lv_goto (tgt := 1128) hx hb dL_law_357 (by decide) ?_
            exact ih _ _ _ _ _ _ ⟨hP, hD, hS, lv_sub hl [2, 3, 4, 5, 6] rfl, hRE⟩
          · exact absurd rfl c352_14
      · exact absurd er c335_12
    · exact absurd hz3 c304_9
  · exact absurd hz3 c259_3
set_option maxHeartbeats 4000000 in
set_option maxRecDepth 100000 in
/-- effect_t -/
theorem lc_effect_t {p : Program} {l : Launch} {e : Env} {s : State} {m : MethodId} {below : List Frame} {meth : Method} {c : Code} {b L : Nat} {xs : Nat → Int32} {dC : Nat → ClassId} {dI : Nat → Nat → Nat} {A AB : Nat → Nat} {cI cQ cZ cL : ClassId} {o n : Nat} {H : Heap} {locs : List Loc} {ls : Array Slot} {σ : HS} {τ : MS} {f : Nat → Int64} {Q : State → Prop} (C : LC p l s m meth c b L xs dC dI cI cQ cZ cL) (hn : 6 * n + 6 ≤ L) (hI : LI s b dC dI A AB cI cQ cZ cL o n H locs ls σ τ f) (hz3 : ¬ xs (6 * n + 3) = 0)
    (ih : ∀ (H : Heap) (locs : List Loc) (ls : Array Slot) (σ : HS) (τ : MS) (f : Nat → Int64), LI s b dC dI A AB cI cQ cZ cL o n H locs ls σ τ f → W p l e room_1 s m #[Value.ref b] below meth c H locs (52 + n + 1) (1167 + 6 * n + 6) Q (F0 m 1128 ls [])) :
    W p l e room_1 s m #[Value.ref b] below meth c H locs (52 + n) (1167 + 6 * n) Q (F0 m 240 ls []) := by
  obtain ⟨hx, hb, hml, hown, hts, ⟨hXs, hbl, hL⟩, hlt, hX, hKM, hKL, hH0, hN⟩ := C
  obtain ⟨hP, hD, hS, hl, hRE⟩ := hI
  obtain ⟨th, ef, se, C9, m9, c9, ta, tp, tq, ht9, hR⟩ := hRE
  have hbA : ¬ s.heap.size ≤ b := Nat.not_le.mpr hbl
  have hA : ∀ q : Nat, s.heap.size ≤ q → s.heap.size ≤ q := fun q h => h
  have hK := hX.1
  obtain ⟨oE, v, S, w, T, hC, hM, hdis⟩ := a_effect (l := l) (dC := dC) (dI := dI) (A := A) (AB := AB) (cI := cI) (cQ := cQ) (cZ := cZ) hR hlt (xs (6 * n + 1)) (xs (6 * n + 2)) true (xs (6 * n + 4)) (xs (6 * n + 5))
  obtain ⟨k, hk0, hfin, hkz⟩ := agr_k (by decide) hdis
  refine lv_aload_n hx hb dL_law_240 rfl (lv_at hl 1 rfl) ?_
  refine lv_aload_n hx hb dL_law_241 rfl (lv_at hl 0 rfl) ?_
  refine lv_iload hx hb dL_law_242 (lv_at hl 4 rfl) ?_
  refine lv_iconst (v := 1) hx hb dL_law_244 (by decide) ?_
  refine lv_iadd hx hb dL_law_245 ?_
  refine lv_topi (fun y0 ey0 => ?_)
  obtain rfl : y0 = nI (6 * n + 1) := ey0.trans (nI_add (6 * n) 1)
  refine va_sld hx hb hXs hbl hbA hS (vp_in_nI (show 6 * n + 1 < L by omega) (by omega)) dL_law_246 ?_
  rw [nI_clamp (show 6 * n + 1 < 2 ^ 31 by omega)]
  refine lv_aload_n hx hb dL_law_247 rfl (lv_at hl 0 rfl) ?_
  refine lv_iload hx hb dL_law_248 (lv_at hl 4 rfl) ?_
  refine lv_iconst (v := 2) hx hb dL_law_250 (by decide) ?_
  refine lv_iadd hx hb dL_law_251 ?_
  refine lv_topi (fun y1 ey1 => ?_)
  obtain rfl : y1 = nI (6 * n + 2) := ey1.trans (nI_add (6 * n) 2)
  refine va_sld hx hb hXs hbl hbA hS (vp_in_nI (show 6 * n + 2 < L by omega) (by omega)) dL_law_252 ?_
  rw [nI_clamp (show 6 * n + 2 < 2 ^ 31 by omega)]
  refine lv_aload_n hx hb dL_law_253 rfl (lv_at hl 0 rfl) ?_
  refine lv_iload hx hb dL_law_254 (lv_at hl 4 rfl) ?_
  refine lv_iconst (v := 3) hx hb dL_law_256 (by decide) ?_
  refine lv_iadd hx hb dL_law_257 ?_
  refine lv_topi (fun y2 ey2 => ?_)
  obtain rfl : y2 = nI (6 * n + 3) := ey2.trans (nI_add (6 * n) 3)
  refine va_sld hx hb hXs hbl hbA hS (vp_in_nI (show 6 * n + 3 < L by omega) (by omega)) dL_law_258 ?_
  rw [nI_clamp (show 6 * n + 3 < 2 ^ 31 by omega)]
  refine lv_if_eq (tgt := 266) hx hb dL_law_259 (by decide) (fun c259_3 => ?_) (fun c259_3 => ?_)
  · exact absurd c259_3 hz3
  · skip
    refine lv_iconst (v := 1) hx hb dL_law_262 (by decide) ?_
    refine lv_goto (tgt := 267) hx hb dL_law_263 (by decide) ?_
    refine lv_aload_n hx hb dL_law_267 rfl (lv_at hl 0 rfl) ?_
    refine lv_iload hx hb dL_law_268 (lv_at hl 4 rfl) ?_
    refine lv_iconst (v := 4) hx hb dL_law_270 (by decide) ?_
    refine lv_iadd hx hb dL_law_271 ?_
    refine lv_topi (fun y4 ey4 => ?_)
    obtain rfl : y4 = nI (6 * n + 4) := ey4.trans (nI_add (6 * n) 4)
    refine va_sld hx hb hXs hbl hbA hS (vp_in_nI (show 6 * n + 4 < L by omega) (by omega)) dL_law_272 ?_
    rw [nI_clamp (show 6 * n + 4 < 2 ^ 31 by omega)]
    refine lv_aload_n hx hb dL_law_273 rfl (lv_at hl 0 rfl) ?_
    refine lv_iload hx hb dL_law_274 (lv_at hl 4 rfl) ?_
    refine lv_iconst (v := 5) hx hb dL_law_276 (by decide) ?_
    refine lv_iadd hx hb dL_law_277 ?_
    refine lv_topi (fun y5 ey5 => ?_)
    obtain rfl : y5 = nI (6 * n + 5) := ey5.trans (nI_add (6 * n) 5)
    refine va_sld hx hb hXs hbl hbA hS (vp_in_nI (show 6 * n + 5 < L by omega) (by omega)) dL_law_278 ?_
    rw [nI_clamp (show 6 * n + 5 < 2 ^ 31 by omega)]
    refine lv_aload_n hx hb dL_law_279 rfl (lv_at hl 3 rfl) ?_
    have hFa := fa_all hD hS hA
    have hPl := ap_P hP
    have hDl := ap_D hD
    have hFl := fa_all hDl hS hA
    have hHl : HX (va_A (LW A cI cQ cL σ o f) H.size) s H := (hH0.kept fun q h1 h2 => hS.2.1 q h1 h2).narrow hFl
    refine va_calli (vx_runSW (As := [.ref (A 0), .int (xs (6 * n + 1)), .int (xs (6 * n + 2)), .int (b2i true), .int (xs (6 * n + 4)), .int (xs (6 * n + 5)), .ref o]) (rest := []) ⟨hx, hb, hml, hown, hts⟩ (w_effect l dC dI A cI cQ cL σ (xs (6 * n + 1)) (xs (6 * n + 2)) true (xs (6 * n + 4)) (xs (6 * n + 5)) o f H.size hC hk0) (vx_cwSW 7 hts gL_law_L_effect rfl rfl rfl (by decide +kernel) ⟨Nat.le_of_ble_eq_true rfl, Nat.le_of_ble_eq_true rfl⟩) ⟨bl_L, fun U hU hW => ⟨rfl, by rw [hU], by rw [hU]; exact hPl, hX.warm hW, va_K.moved hW.alike hKL, hf_any hDl, by rw [hU]; exact HX.moved hW.alike hHl, hN.moved hW.alike⟩⟩ rfl rfl hl.1 rfl (lv_room (Nat.le_of_ble_eq_true rfl)) dL_law_280 ⟨by show _ + 1 ≤ 613737; omega, by show _ + 6 ≤ 7254893; omega⟩) hS (fun q _ h => hFl q h) hFl (fun r u t H locs ht hvm hw hB hz1 hk1 hS => ?_)
    obtain ⟨σ1, f1⟩ := u
    obtain ⟨rfl, hSs, hout⟩ := hw
    obtain ⟨hP1, hD1⟩ := hB
    rw [ht] at hP1
    obtain ⟨hP, hD2⟩ := fr_L rfl hP hD hP1 hD1 hk1
    have hD := hD2.weaken (B := fun q => s.heap.size ≤ q) (fun _ q _ h => hFa q.1 h)
    clear hD2 hP1 hD1 hk1 hz1 hPl hDl hFl hFa hHl
    refine lv_istore (lv' := [(5, .int r), (0, .ref b), (1, .ref (A 0)), (2, .ref (AB 0)), (3, .ref o), (4, .int (nI (6 * n)))]) hx hb dL_law_283 hl (by decide) rfl (fun ls hl => ?_)
    refine lv_aload_n hx hb dL_law_285 rfl (lv_at hl 3 rfl) ?_
    refine lv_aload_n hx hb dL_law_286 rfl (lv_at hl 1 rfl) ?_
    refine lv_iload hx hb dL_law_287 (lv_at hl 5 rfl) ?_
    refine lv_iconst (v := 1) hx hb dL_law_289 (by decide) ?_
    refine lv_iadd hx hb dL_law_290 ?_
    refine lv_topi (fun y6 ey6 => ?_)
    obtain rfl : y6 = nI (6 * n + 1) := ey6.trans (nI_add (6 * n) 1)
    refine va_sld hx hb hXs hbl hbA hS (vp_in_nI (show 6 * n + 1 < L by omega) (by omega)) dL_law_291 ?_
    rw [nI_clamp (show 6 * n + 1 < 2 ^ 31 by omega)]
    refine lv_aload_n hx hb dL_law_292 rfl (lv_at hl 1 rfl) ?_
    refine lv_iload hx hb dL_law_293 (lv_at hl 5 rfl) ?_
    refine lv_iconst (v := 2) hx hb dL_law_295 (by decide) ?_
    refine lv_iadd hx hb dL_law_296 ?_
    refine lv_topi (fun y7 ey7 => ?_)
    obtain rfl : y7 = nI (6 * n + 2) := ey7.trans (nI_add (6 * n) 2)
    refine va_sld hx hb hXs hbl hbA hS (vp_in_nI (show 6 * n + 2 < L by omega) (by omega)) dL_law_297 ?_
    rw [nI_clamp (show 6 * n + 2 < 2 ^ 31 by omega)]
    refine lv_aload_n hx hb dL_law_298 rfl (lv_at hl 1 rfl) ?_
    refine lv_iload hx hb dL_law_299 (lv_at hl 5 rfl) ?_
    refine lv_iconst (v := 3) hx hb dL_law_301 (by decide) ?_
    refine lv_iadd hx hb dL_law_302 ?_
    refine lv_topi (fun y8 ey8 => ?_)
    obtain rfl : y8 = nI (6 * n + 3) := ey8.trans (nI_add (6 * n) 3)
    refine va_sld hx hb hXs hbl hbA hS (vp_in_nI (show 6 * n + 3 < L by omega) (by omega)) dL_law_303 ?_
    rw [nI_clamp (show 6 * n + 3 < 2 ^ 31 by omega)]
    refine lv_if_eq (tgt := 311) hx hb dL_law_304 (by decide) (fun c304_9 => ?_) (fun c304_9 => ?_)
    · exact absurd c304_9 hz3
    · skip
      refine lv_iconst (v := 1) hx hb dL_law_307 (by decide) ?_
      refine lv_goto (tgt := 312) hx hb dL_law_308 (by decide) ?_
      refine lv_aload_n hx hb dL_law_312 rfl (lv_at hl 1 rfl) ?_
      refine lv_iload hx hb dL_law_313 (lv_at hl 5 rfl) ?_
      refine lv_iconst (v := 4) hx hb dL_law_315 (by decide) ?_
      refine lv_iadd hx hb dL_law_316 ?_
      refine lv_topi (fun y10 ey10 => ?_)
      obtain rfl : y10 = nI (6 * n + 4) := ey10.trans (nI_add (6 * n) 4)
      refine va_sld hx hb hXs hbl hbA hS (vp_in_nI (show 6 * n + 4 < L by omega) (by omega)) dL_law_317 ?_
      rw [nI_clamp (show 6 * n + 4 < 2 ^ 31 by omega)]
      refine lv_aload_n hx hb dL_law_318 rfl (lv_at hl 1 rfl) ?_
      refine lv_iload hx hb dL_law_319 (lv_at hl 5 rfl) ?_
      refine lv_iconst (v := 5) hx hb dL_law_321 (by decide) ?_
      refine lv_iadd hx hb dL_law_322 ?_
      refine lv_topi (fun y11 ey11 => ?_)
      obtain rfl : y11 = nI (6 * n + 5) := ey11.trans (nI_add (6 * n) 5)
      refine va_sld hx hb hXs hbl hbA hS (vp_in_nI (show 6 * n + 5 < L by omega) (by omega)) dL_law_323 ?_
      rw [nI_clamp (show 6 * n + 5 < 2 ^ 31 by omega)]
      obtain ⟨k, rfl⟩ : ∃ k, k = r := ⟨r, rfl⟩
      have hFa := fa_all hD hS hA
      have hPm := ap_PR hP
      have hDm := ap_DR hD
      have hFm := fa_all hDm hS hA
      refine va_calli (va_runV (As := [.int (xs (6 * n + 1)), .int (xs (6 * n + 2)), .int (b2i true), .int (xs (6 * n + 4)), .int (xs (6 * n + 5))]) (rest := []) ⟨hx, hb, hml, hown, hts⟩ (hM H.size) (cwV 5 hts gL_law_X4_effect rfl rfl rfl (by decide +kernel) ⟨Nat.le_of_ble_eq_true rfl, Nat.le_of_ble_eq_true rfl⟩) ⟨bm_F, va_recv hKM hPm (ci := 4) (q0 := 0) rfl rfl, fun U hU hW => ⟨rfl, by rw [hU], by rw [hU]; exact hPm, va_K.moved hW.alike hKM, hf_any hDm⟩⟩ rfl rfl hl.1 rfl (lv_room (Nat.le_of_ble_eq_true rfl)) dL_law_324 ⟨by show _ + 0 ≤ 613737; omega, by show _ + 0 ≤ 7254893; omega⟩) hS (fun q _ h => hFm q h) hFm (fun r τ1 t H locs ht hvm hw hB hz1 hk1 hS => ?_)
      obtain ⟨rfl, hTt⟩ := hw
      obtain ⟨hP1, hD1⟩ := hB
      rw [ht] at hP1
      obtain ⟨hP, hD2⟩ := fr_R rfl hP hD hP1 hD1 hk1
      have hD := hD2.weaken (B := fun q => s.heap.size ≤ q) (fun _ q _ h => hFa q.1 h)
      clear hD2 hP1 hD1 hk1 hz1 hPm hDm hFm hFa
      refine lv_istore (lv' := [(6, .int r), (5, .int k), (0, .ref b), (1, .ref (A 0)), (2, .ref (AB 0)), (3, .ref o), (4, .int (nI (6 * n)))]) hx hb dL_law_327 hl (by decide) rfl (fun ls hl => ?_)
      refine lv_aload_n hx hb dL_law_329 rfl (lv_at hl 4 rfl) ?_
      have hPm := ap_PR hP
      refine vp_callSi (W.runV (As := []) (rest := []) ⟨hx, hb, hml, hown, hts⟩ (m_thrown l dC dI AB cI cZ τ1) (cwV 0 hts gL_law_X4_thrown rfl rfl rfl (by decide +kernel) ⟨Nat.le_of_ble_eq_true rfl, Nat.le_of_ble_eq_true rfl⟩) ⟨bm_P, va_recv hKM hPm (ci := 4) (q0 := 0) rfl rfl, fun U hU hW => ⟨rfl, by rw [hU]; exact hPm, va_K.moved hW.alike hKM⟩⟩ rfl rfl hl.1 rfl (lv_room (Nat.le_of_ble_eq_true rfl)) dL_law_330 ⟨by show _ + 0 ≤ 613737; omega, by show _ + 0 ≤ 7254893; omega⟩) (fun r2 er => ?_)
      obtain ⟨hthr, hRE⟩ := hfin _ _ hSs hTt
      have er : r2 = k := er.trans hthr
      clear hPm
      refine lv_iload hx hb dL_law_333 (lv_at hl 1 rfl) ?_
      refine lv_icmp_eq (tgt := 340) hx hb dL_law_335 (by decide) (fun c335_12 => ?_) (fun c335_12 => ?_)
      · skip
        refine lv_iload hx hb dL_law_340 (lv_at hl 1 rfl) ?_
        refine lv_if_ne (tgt := 357) hx hb dL_law_342 (by decide) (fun c342_13 => ?_) (fun c342_13 => ?_)
        · skip
          refine lv_goto (tgt := 1128) hx hb dL_law_357 (by decide) ?_
          exact ih _ _ _ _ _ _ ⟨hP, hD, hS, lv_sub hl [2, 3, 4, 5, 6] rfl, hRE⟩
        · skip
          refine lv_aload_n hx hb dL_law_345 rfl (lv_at hl 5 rfl) ?_
          refine lv_iconst (v := 0) hx hb dL_law_346 (by decide) ?_
          have hz0 : k = 0 := c342_13
          obtain ⟨hnone, hwv⟩ := hkz hz0
          have hout := hout hnone
          refine va_lald hx hb hKL hP 24 0 rfl rfl in01 dL_law_347 ?_
          refine lv_iload hx hb dL_law_348 (lv_at hl 0 rfl) ?_
          refine lv_i2l (v := r.toInt64) hx hb dL_law_350 rfl ?_
          refine lw_lcmp hx hb dL_law_351 (hout.trans (by rw [hwv])) ?_
          refine lv_if_eq (tgt := 357) hx hb dL_law_352 (by decide) (fun c352_14 => ?_) (fun c352_14 => ?_)
          · skip
            refine lv_goto (tgt := 1128) hx hb dL_law_357 (by decide) ?_
            exact ih _ _ _ _ _ _ ⟨hP, hD, hS, lv_sub hl [2, 3, 4, 5, 6] rfl, hRE⟩
          · exact absurd rfl c352_14
      · exact absurd er c335_12
set_option maxHeartbeats 4000000 in
set_option maxRecDepth 100000 in
/-- clause -/
theorem lc_clause {p : Program} {l : Launch} {e : Env} {s : State} {m : MethodId} {below : List Frame} {meth : Method} {c : Code} {b L : Nat} {xs : Nat → Int32} {dC : Nat → ClassId} {dI : Nat → Nat → Nat} {A AB : Nat → Nat} {cI cQ cZ cL : ClassId} {o n : Nat} {H : Heap} {locs : List Loc} {ls : Array Slot} {σ : HS} {τ : MS} {f : Nat → Int64} {Q : State → Prop} (C : LC p l s m meth c b L xs dC dI cI cQ cZ cL) (hn : 6 * n + 6 ≤ L) (hI : LI s b dC dI A AB cI cQ cZ cL o n H locs ls σ τ f)
    (ih : ∀ (H : Heap) (locs : List Loc) (ls : Array Slot) (σ : HS) (τ : MS) (f : Nat → Int64), LI s b dC dI A AB cI cQ cZ cL o n H locs ls σ τ f → W p l e room_1 s m #[Value.ref b] below meth c H locs (52 + n + 1) (1167 + 6 * n + 6) Q (F0 m 1128 ls [])) :
    W p l e room_1 s m #[Value.ref b] below meth c H locs (52 + n) (1167 + 6 * n) Q (F0 m 360 ls []) := by
  obtain ⟨hx, hb, hml, hown, hts, ⟨hXs, hbl, hL⟩, hlt, hX, hKM, hKL, hH0, hN⟩ := C
  obtain ⟨hP, hD, hS, hl, hRE⟩ := hI
  obtain ⟨th, ef, se, C9, m9, c9, ta, tp, tq, ht9, hR⟩ := hRE
  have hbA : ¬ s.heap.size ≤ b := Nat.not_le.mpr hbl
  have hA : ∀ q : Nat, s.heap.size ≤ q → s.heap.size ≤ q := fun q h => h
  have hK := hX.1
  obtain ⟨oE, v, S, w, T, hC, hM, hdis⟩ := a_clause (l := l) (dC := dC) (dI := dI) (A := A) (AB := AB) (cI := cI) (cQ := cQ) (cZ := cZ) hR hlt (xs (6 * n + 1)) (xs (6 * n + 2))
  obtain ⟨k, hk0, hfin, hkz⟩ := agr_k (by decide) hdis
  refine lv_aload_n hx hb dL_law_360 rfl (lv_at hl 1 rfl) ?_
  refine lv_aload_n hx hb dL_law_361 rfl (lv_at hl 0 rfl) ?_
  refine lv_iload hx hb dL_law_362 (lv_at hl 4 rfl) ?_
  refine lv_iconst (v := 1) hx hb dL_law_364 (by decide) ?_
  refine lv_iadd hx hb dL_law_365 ?_
  refine lv_topi (fun y0 ey0 => ?_)
  obtain rfl : y0 = nI (6 * n + 1) := ey0.trans (nI_add (6 * n) 1)
  refine va_sld hx hb hXs hbl hbA hS (vp_in_nI (show 6 * n + 1 < L by omega) (by omega)) dL_law_366 ?_
  rw [nI_clamp (show 6 * n + 1 < 2 ^ 31 by omega)]
  refine lv_aload_n hx hb dL_law_367 rfl (lv_at hl 0 rfl) ?_
  refine lv_iload hx hb dL_law_368 (lv_at hl 4 rfl) ?_
  refine lv_iconst (v := 2) hx hb dL_law_370 (by decide) ?_
  refine lv_iadd hx hb dL_law_371 ?_
  refine lv_topi (fun y1 ey1 => ?_)
  obtain rfl : y1 = nI (6 * n + 2) := ey1.trans (nI_add (6 * n) 2)
  refine va_sld hx hb hXs hbl hbA hS (vp_in_nI (show 6 * n + 2 < L by omega) (by omega)) dL_law_372 ?_
  rw [nI_clamp (show 6 * n + 2 < 2 ^ 31 by omega)]
  refine lv_aload_n hx hb dL_law_373 rfl (lv_at hl 3 rfl) ?_
  have hFa := fa_all hD hS hA
  have hPl := ap_P hP
  have hDl := ap_D hD
  have hFl := fa_all hDl hS hA
  have hHl : HX (va_A (LW A cI cQ cL σ o f) H.size) s H := (hH0.kept fun q h1 h2 => hS.2.1 q h1 h2).narrow hFl
  refine va_calli (vx_runSW (As := [.ref (A 0), .int (xs (6 * n + 1)), .int (xs (6 * n + 2)), .ref o]) (rest := []) ⟨hx, hb, hml, hown, hts⟩ (w_clause l dC dI A cI cQ cL σ (xs (6 * n + 1)) (xs (6 * n + 2)) o f H.size hC hk0) (vx_cwSW 4 hts gL_law_L_clause rfl rfl rfl (by decide +kernel) ⟨Nat.le_of_ble_eq_true rfl, Nat.le_of_ble_eq_true rfl⟩) ⟨bl_L, fun U hU hW => ⟨rfl, by rw [hU], by rw [hU]; exact hPl, hX.warm hW, va_K.moved hW.alike hKL, hf_any hDl, by rw [hU]; exact HX.moved hW.alike hHl, hN.moved hW.alike⟩⟩ rfl rfl hl.1 rfl (lv_room (Nat.le_of_ble_eq_true rfl)) dL_law_374 ⟨by show _ + 1 ≤ 613737; omega, by show _ + 6 ≤ 7254893; omega⟩) hS (fun q _ h => hFl q h) hFl (fun r u t H locs ht hvm hw hB hz1 hk1 hS => ?_)
  obtain ⟨σ1, f1⟩ := u
  obtain ⟨rfl, hSs, hout⟩ := hw
  obtain ⟨hP1, hD1⟩ := hB
  rw [ht] at hP1
  obtain ⟨hP, hD2⟩ := fr_L rfl hP hD hP1 hD1 hk1
  have hD := hD2.weaken (B := fun q => s.heap.size ≤ q) (fun _ q _ h => hFa q.1 h)
  clear hD2 hP1 hD1 hk1 hz1 hPl hDl hFl hFa hHl
  refine lv_istore (lv' := [(5, .int r), (0, .ref b), (1, .ref (A 0)), (2, .ref (AB 0)), (3, .ref o), (4, .int (nI (6 * n)))]) hx hb dL_law_377 hl (by decide) rfl (fun ls hl => ?_)
  refine lv_aload_n hx hb dL_law_379 rfl (lv_at hl 3 rfl) ?_
  refine lv_aload_n hx hb dL_law_380 rfl (lv_at hl 1 rfl) ?_
  refine lv_iload hx hb dL_law_381 (lv_at hl 5 rfl) ?_
  refine lv_iconst (v := 1) hx hb dL_law_383 (by decide) ?_
  refine lv_iadd hx hb dL_law_384 ?_
  refine lv_topi (fun y2 ey2 => ?_)
  obtain rfl : y2 = nI (6 * n + 1) := ey2.trans (nI_add (6 * n) 1)
  refine va_sld hx hb hXs hbl hbA hS (vp_in_nI (show 6 * n + 1 < L by omega) (by omega)) dL_law_385 ?_
  rw [nI_clamp (show 6 * n + 1 < 2 ^ 31 by omega)]
  refine lv_aload_n hx hb dL_law_386 rfl (lv_at hl 1 rfl) ?_
  refine lv_iload hx hb dL_law_387 (lv_at hl 5 rfl) ?_
  refine lv_iconst (v := 2) hx hb dL_law_389 (by decide) ?_
  refine lv_iadd hx hb dL_law_390 ?_
  refine lv_topi (fun y3 ey3 => ?_)
  obtain rfl : y3 = nI (6 * n + 2) := ey3.trans (nI_add (6 * n) 2)
  refine va_sld hx hb hXs hbl hbA hS (vp_in_nI (show 6 * n + 2 < L by omega) (by omega)) dL_law_391 ?_
  rw [nI_clamp (show 6 * n + 2 < 2 ^ 31 by omega)]
  obtain ⟨k, rfl⟩ : ∃ k, k = r := ⟨r, rfl⟩
  have hFa := fa_all hD hS hA
  have hPm := ap_PR hP
  have hDm := ap_DR hD
  have hFm := fa_all hDm hS hA
  refine va_calli (va_runV (As := [.int (xs (6 * n + 1)), .int (xs (6 * n + 2))]) (rest := []) ⟨hx, hb, hml, hown, hts⟩ (hM H.size) (cwV 2 hts gL_law_X4_clause rfl rfl rfl (by decide +kernel) ⟨Nat.le_of_ble_eq_true rfl, Nat.le_of_ble_eq_true rfl⟩) ⟨bm_F, va_recv hKM hPm (ci := 4) (q0 := 0) rfl rfl, fun U hU hW => ⟨rfl, by rw [hU], by rw [hU]; exact hPm, va_K.moved hW.alike hKM, hf_any hDm⟩⟩ rfl rfl hl.1 rfl (lv_room (Nat.le_of_ble_eq_true rfl)) dL_law_392 ⟨by show _ + 0 ≤ 613737; omega, by show _ + 0 ≤ 7254893; omega⟩) hS (fun q _ h => hFm q h) hFm (fun r τ1 t H locs ht hvm hw hB hz1 hk1 hS => ?_)
  obtain ⟨rfl, hTt⟩ := hw
  obtain ⟨hP1, hD1⟩ := hB
  rw [ht] at hP1
  obtain ⟨hP, hD2⟩ := fr_R rfl hP hD hP1 hD1 hk1
  have hD := hD2.weaken (B := fun q => s.heap.size ≤ q) (fun _ q _ h => hFa q.1 h)
  clear hD2 hP1 hD1 hk1 hz1 hPm hDm hFm hFa
  refine lv_istore (lv' := [(6, .int r), (5, .int k), (0, .ref b), (1, .ref (A 0)), (2, .ref (AB 0)), (3, .ref o), (4, .int (nI (6 * n)))]) hx hb dL_law_395 hl (by decide) rfl (fun ls hl => ?_)
  refine lv_aload_n hx hb dL_law_397 rfl (lv_at hl 4 rfl) ?_
  have hPm := ap_PR hP
  refine vp_callSi (W.runV (As := []) (rest := []) ⟨hx, hb, hml, hown, hts⟩ (m_thrown l dC dI AB cI cZ τ1) (cwV 0 hts gL_law_X4_thrown rfl rfl rfl (by decide +kernel) ⟨Nat.le_of_ble_eq_true rfl, Nat.le_of_ble_eq_true rfl⟩) ⟨bm_P, va_recv hKM hPm (ci := 4) (q0 := 0) rfl rfl, fun U hU hW => ⟨rfl, by rw [hU]; exact hPm, va_K.moved hW.alike hKM⟩⟩ rfl rfl hl.1 rfl (lv_room (Nat.le_of_ble_eq_true rfl)) dL_law_398 ⟨by show _ + 0 ≤ 613737; omega, by show _ + 0 ≤ 7254893; omega⟩) (fun r2 er => ?_)
  obtain ⟨hthr, hRE⟩ := hfin _ _ hSs hTt
  have er : r2 = k := er.trans hthr
  clear hPm
  refine lv_iload hx hb dL_law_401 (lv_at hl 1 rfl) ?_
  refine lv_icmp_eq (tgt := 408) hx hb dL_law_403 (by decide) (fun c403_4 => ?_) (fun c403_4 => ?_)
  · skip
    refine lv_iload hx hb dL_law_408 (lv_at hl 1 rfl) ?_
    refine lv_if_ne (tgt := 425) hx hb dL_law_410 (by decide) (fun c410_5 => ?_) (fun c410_5 => ?_)
    · skip
      refine lv_goto (tgt := 1128) hx hb dL_law_425 (by decide) ?_
      exact ih _ _ _ _ _ _ ⟨hP, hD, hS, lv_sub hl [2, 3, 4, 5, 6] rfl, hRE⟩
    · skip
      refine lv_aload_n hx hb dL_law_413 rfl (lv_at hl 5 rfl) ?_
      refine lv_iconst (v := 0) hx hb dL_law_414 (by decide) ?_
      have hz0 : k = 0 := c410_5
      obtain ⟨hnone, hwv⟩ := hkz hz0
      have hout := hout hnone
      refine va_lald hx hb hKL hP 24 0 rfl rfl in01 dL_law_415 ?_
      refine lv_iload hx hb dL_law_416 (lv_at hl 0 rfl) ?_
      refine lv_i2l (v := r.toInt64) hx hb dL_law_418 rfl ?_
      refine lw_lcmp hx hb dL_law_419 (hout.trans (by rw [hwv])) ?_
      refine lv_if_eq (tgt := 425) hx hb dL_law_420 (by decide) (fun c420_6 => ?_) (fun c420_6 => ?_)
      · skip
        refine lv_goto (tgt := 1128) hx hb dL_law_425 (by decide) ?_
        exact ih _ _ _ _ _ _ ⟨hP, hD, hS, lv_sub hl [2, 3, 4, 5, 6] rfl, hRE⟩
      · exact absurd rfl c420_6
  · exact absurd er c403_4
set_option maxHeartbeats 4000000 in
set_option maxRecDepth 100000 in
/-- goal -/
theorem lc_goal {p : Program} {l : Launch} {e : Env} {s : State} {m : MethodId} {below : List Frame} {meth : Method} {c : Code} {b L : Nat} {xs : Nat → Int32} {dC : Nat → ClassId} {dI : Nat → Nat → Nat} {A AB : Nat → Nat} {cI cQ cZ cL : ClassId} {o n : Nat} {H : Heap} {locs : List Loc} {ls : Array Slot} {σ : HS} {τ : MS} {f : Nat → Int64} {Q : State → Prop} (C : LC p l s m meth c b L xs dC dI cI cQ cZ cL) (hn : 6 * n + 6 ≤ L) (hI : LI s b dC dI A AB cI cQ cZ cL o n H locs ls σ τ f)
    (ih : ∀ (H : Heap) (locs : List Loc) (ls : Array Slot) (σ : HS) (τ : MS) (f : Nat → Int64), LI s b dC dI A AB cI cQ cZ cL o n H locs ls σ τ f → W p l e room_1 s m #[Value.ref b] below meth c H locs (52 + n + 1) (1167 + 6 * n + 6) Q (F0 m 1128 ls [])) :
    W p l e room_1 s m #[Value.ref b] below meth c H locs (52 + n) (1167 + 6 * n) Q (F0 m 428 ls []) := by
  obtain ⟨hx, hb, hml, hown, hts, ⟨hXs, hbl, hL⟩, hlt, hX, hKM, hKL, hH0, hN⟩ := C
  obtain ⟨hP, hD, hS, hl, hRE⟩ := hI
  obtain ⟨th, ef, se, C9, m9, c9, ta, tp, tq, ht9, hR⟩ := hRE
  have hbA : ¬ s.heap.size ≤ b := Nat.not_le.mpr hbl
  have hA : ∀ q : Nat, s.heap.size ≤ q → s.heap.size ≤ q := fun q h => h
  have hK := hX.1
  obtain ⟨oE, v, S, w, T, hC, hM, hdis⟩ := a_goal (l := l) (dC := dC) (dI := dI) (A := A) (AB := AB) (cI := cI) (cQ := cQ) (cZ := cZ) hR hlt (xs (6 * n + 1)) (xs (6 * n + 2))
  obtain ⟨k, hk0, hfin, hkz⟩ := agr_k (by decide) hdis
  refine lv_aload_n hx hb dL_law_428 rfl (lv_at hl 1 rfl) ?_
  refine lv_aload_n hx hb dL_law_429 rfl (lv_at hl 0 rfl) ?_
  refine lv_iload hx hb dL_law_430 (lv_at hl 4 rfl) ?_
  refine lv_iconst (v := 1) hx hb dL_law_432 (by decide) ?_
  refine lv_iadd hx hb dL_law_433 ?_
  refine lv_topi (fun y0 ey0 => ?_)
  obtain rfl : y0 = nI (6 * n + 1) := ey0.trans (nI_add (6 * n) 1)
  refine va_sld hx hb hXs hbl hbA hS (vp_in_nI (show 6 * n + 1 < L by omega) (by omega)) dL_law_434 ?_
  rw [nI_clamp (show 6 * n + 1 < 2 ^ 31 by omega)]
  refine lv_aload_n hx hb dL_law_435 rfl (lv_at hl 0 rfl) ?_
  refine lv_iload hx hb dL_law_436 (lv_at hl 4 rfl) ?_
  refine lv_iconst (v := 2) hx hb dL_law_438 (by decide) ?_
  refine lv_iadd hx hb dL_law_439 ?_
  refine lv_topi (fun y1 ey1 => ?_)
  obtain rfl : y1 = nI (6 * n + 2) := ey1.trans (nI_add (6 * n) 2)
  refine va_sld hx hb hXs hbl hbA hS (vp_in_nI (show 6 * n + 2 < L by omega) (by omega)) dL_law_440 ?_
  rw [nI_clamp (show 6 * n + 2 < 2 ^ 31 by omega)]
  refine lv_aload_n hx hb dL_law_441 rfl (lv_at hl 3 rfl) ?_
  have hFa := fa_all hD hS hA
  have hPl := ap_P hP
  have hDl := ap_D hD
  have hFl := fa_all hDl hS hA
  have hHl : HX (va_A (LW A cI cQ cL σ o f) H.size) s H := (hH0.kept fun q h1 h2 => hS.2.1 q h1 h2).narrow hFl
  refine va_calli (vx_runSW (As := [.ref (A 0), .int (xs (6 * n + 1)), .int (xs (6 * n + 2)), .ref o]) (rest := []) ⟨hx, hb, hml, hown, hts⟩ (w_goal l dC dI A cI cQ cL σ (xs (6 * n + 1)) (xs (6 * n + 2)) o f H.size hC hk0) (vx_cwSW 4 hts gL_law_L_goal rfl rfl rfl (by decide +kernel) ⟨Nat.le_of_ble_eq_true rfl, Nat.le_of_ble_eq_true rfl⟩) ⟨bl_L, fun U hU hW => ⟨rfl, by rw [hU], by rw [hU]; exact hPl, hX.warm hW, va_K.moved hW.alike hKL, hf_any hDl, by rw [hU]; exact HX.moved hW.alike hHl, hN.moved hW.alike⟩⟩ rfl rfl hl.1 rfl (lv_room (Nat.le_of_ble_eq_true rfl)) dL_law_442 ⟨by show _ + 1 ≤ 613737; omega, by show _ + 6 ≤ 7254893; omega⟩) hS (fun q _ h => hFl q h) hFl (fun r u t H locs ht hvm hw hB hz1 hk1 hS => ?_)
  obtain ⟨σ1, f1⟩ := u
  obtain ⟨rfl, hSs, hout⟩ := hw
  obtain ⟨hP1, hD1⟩ := hB
  rw [ht] at hP1
  obtain ⟨hP, hD2⟩ := fr_L rfl hP hD hP1 hD1 hk1
  have hD := hD2.weaken (B := fun q => s.heap.size ≤ q) (fun _ q _ h => hFa q.1 h)
  clear hD2 hP1 hD1 hk1 hz1 hPl hDl hFl hFa hHl
  refine lv_istore (lv' := [(5, .int r), (0, .ref b), (1, .ref (A 0)), (2, .ref (AB 0)), (3, .ref o), (4, .int (nI (6 * n)))]) hx hb dL_law_445 hl (by decide) rfl (fun ls hl => ?_)
  refine lv_aload_n hx hb dL_law_447 rfl (lv_at hl 3 rfl) ?_
  refine lv_aload_n hx hb dL_law_448 rfl (lv_at hl 1 rfl) ?_
  refine lv_iload hx hb dL_law_449 (lv_at hl 5 rfl) ?_
  refine lv_iconst (v := 1) hx hb dL_law_451 (by decide) ?_
  refine lv_iadd hx hb dL_law_452 ?_
  refine lv_topi (fun y2 ey2 => ?_)
  obtain rfl : y2 = nI (6 * n + 1) := ey2.trans (nI_add (6 * n) 1)
  refine va_sld hx hb hXs hbl hbA hS (vp_in_nI (show 6 * n + 1 < L by omega) (by omega)) dL_law_453 ?_
  rw [nI_clamp (show 6 * n + 1 < 2 ^ 31 by omega)]
  refine lv_aload_n hx hb dL_law_454 rfl (lv_at hl 1 rfl) ?_
  refine lv_iload hx hb dL_law_455 (lv_at hl 5 rfl) ?_
  refine lv_iconst (v := 2) hx hb dL_law_457 (by decide) ?_
  refine lv_iadd hx hb dL_law_458 ?_
  refine lv_topi (fun y3 ey3 => ?_)
  obtain rfl : y3 = nI (6 * n + 2) := ey3.trans (nI_add (6 * n) 2)
  refine va_sld hx hb hXs hbl hbA hS (vp_in_nI (show 6 * n + 2 < L by omega) (by omega)) dL_law_459 ?_
  rw [nI_clamp (show 6 * n + 2 < 2 ^ 31 by omega)]
  obtain ⟨k, rfl⟩ : ∃ k, k = r := ⟨r, rfl⟩
  have hFa := fa_all hD hS hA
  have hPm := ap_PR hP
  have hDm := ap_DR hD
  have hFm := fa_all hDm hS hA
  refine va_calli (va_runV (As := [.int (xs (6 * n + 1)), .int (xs (6 * n + 2))]) (rest := []) ⟨hx, hb, hml, hown, hts⟩ (hM H.size) (cwV 2 hts gL_law_X4_goal rfl rfl rfl (by decide +kernel) ⟨Nat.le_of_ble_eq_true rfl, Nat.le_of_ble_eq_true rfl⟩) ⟨bm_F, va_recv hKM hPm (ci := 4) (q0 := 0) rfl rfl, fun U hU hW => ⟨rfl, by rw [hU], by rw [hU]; exact hPm, va_K.moved hW.alike hKM, hf_any hDm⟩⟩ rfl rfl hl.1 rfl (lv_room (Nat.le_of_ble_eq_true rfl)) dL_law_460 ⟨by show _ + 0 ≤ 613737; omega, by show _ + 0 ≤ 7254893; omega⟩) hS (fun q _ h => hFm q h) hFm (fun r τ1 t H locs ht hvm hw hB hz1 hk1 hS => ?_)
  obtain ⟨rfl, hTt⟩ := hw
  obtain ⟨hP1, hD1⟩ := hB
  rw [ht] at hP1
  obtain ⟨hP, hD2⟩ := fr_R rfl hP hD hP1 hD1 hk1
  have hD := hD2.weaken (B := fun q => s.heap.size ≤ q) (fun _ q _ h => hFa q.1 h)
  clear hD2 hP1 hD1 hk1 hz1 hPm hDm hFm hFa
  refine lv_istore (lv' := [(6, .int r), (5, .int k), (0, .ref b), (1, .ref (A 0)), (2, .ref (AB 0)), (3, .ref o), (4, .int (nI (6 * n)))]) hx hb dL_law_463 hl (by decide) rfl (fun ls hl => ?_)
  refine lv_aload_n hx hb dL_law_465 rfl (lv_at hl 4 rfl) ?_
  have hPm := ap_PR hP
  refine vp_callSi (W.runV (As := []) (rest := []) ⟨hx, hb, hml, hown, hts⟩ (m_thrown l dC dI AB cI cZ τ1) (cwV 0 hts gL_law_X4_thrown rfl rfl rfl (by decide +kernel) ⟨Nat.le_of_ble_eq_true rfl, Nat.le_of_ble_eq_true rfl⟩) ⟨bm_P, va_recv hKM hPm (ci := 4) (q0 := 0) rfl rfl, fun U hU hW => ⟨rfl, by rw [hU]; exact hPm, va_K.moved hW.alike hKM⟩⟩ rfl rfl hl.1 rfl (lv_room (Nat.le_of_ble_eq_true rfl)) dL_law_466 ⟨by show _ + 0 ≤ 613737; omega, by show _ + 0 ≤ 7254893; omega⟩) (fun r2 er => ?_)
  obtain ⟨hthr, hRE⟩ := hfin _ _ hSs hTt
  have er : r2 = k := er.trans hthr
  clear hPm
  refine lv_iload hx hb dL_law_469 (lv_at hl 1 rfl) ?_
  refine lv_icmp_eq (tgt := 476) hx hb dL_law_471 (by decide) (fun c471_4 => ?_) (fun c471_4 => ?_)
  · skip
    refine lv_iload hx hb dL_law_476 (lv_at hl 1 rfl) ?_
    refine lv_if_ne (tgt := 493) hx hb dL_law_478 (by decide) (fun c478_5 => ?_) (fun c478_5 => ?_)
    · skip
      refine lv_goto (tgt := 1128) hx hb dL_law_493 (by decide) ?_
      exact ih _ _ _ _ _ _ ⟨hP, hD, hS, lv_sub hl [2, 3, 4, 5, 6] rfl, hRE⟩
    · skip
      refine lv_aload_n hx hb dL_law_481 rfl (lv_at hl 5 rfl) ?_
      refine lv_iconst (v := 0) hx hb dL_law_482 (by decide) ?_
      have hz0 : k = 0 := c478_5
      obtain ⟨hnone, hwv⟩ := hkz hz0
      have hout := hout hnone
      refine va_lald hx hb hKL hP 24 0 rfl rfl in01 dL_law_483 ?_
      refine lv_iload hx hb dL_law_484 (lv_at hl 0 rfl) ?_
      refine lv_i2l (v := r.toInt64) hx hb dL_law_486 rfl ?_
      refine lw_lcmp hx hb dL_law_487 (hout.trans (by rw [hwv])) ?_
      refine lv_if_eq (tgt := 493) hx hb dL_law_488 (by decide) (fun c488_6 => ?_) (fun c488_6 => ?_)
      · skip
        refine lv_goto (tgt := 1128) hx hb dL_law_493 (by decide) ?_
        exact ih _ _ _ _ _ _ ⟨hP, hD, hS, lv_sub hl [2, 3, 4, 5, 6] rfl, hRE⟩
      · exact absurd rfl c488_6
  · exact absurd er c471_4
set_option maxHeartbeats 4000000 in
set_option maxRecDepth 100000 in
/-- start -/
theorem lc_start {p : Program} {l : Launch} {e : Env} {s : State} {m : MethodId} {below : List Frame} {meth : Method} {c : Code} {b L : Nat} {xs : Nat → Int32} {dC : Nat → ClassId} {dI : Nat → Nat → Nat} {A AB : Nat → Nat} {cI cQ cZ cL : ClassId} {o n : Nat} {H : Heap} {locs : List Loc} {ls : Array Slot} {σ : HS} {τ : MS} {f : Nat → Int64} {Q : State → Prop} (C : LC p l s m meth c b L xs dC dI cI cQ cZ cL) (hn : 6 * n + 6 ≤ L) (hI : LI s b dC dI A AB cI cQ cZ cL o n H locs ls σ τ f)
    (ih : ∀ (H : Heap) (locs : List Loc) (ls : Array Slot) (σ : HS) (τ : MS) (f : Nat → Int64), LI s b dC dI A AB cI cQ cZ cL o n H locs ls σ τ f → W p l e room_1 s m #[Value.ref b] below meth c H locs (52 + n + 1) (1167 + 6 * n + 6) Q (F0 m 1128 ls [])) :
    W p l e room_1 s m #[Value.ref b] below meth c H locs (52 + n) (1167 + 6 * n) Q (F0 m 496 ls []) := by
  obtain ⟨hx, hb, hml, hown, hts, ⟨hXs, hbl, hL⟩, hlt, hX, hKM, hKL, hH0, hN⟩ := C
  obtain ⟨hP, hD, hS, hl, hRE⟩ := hI
  obtain ⟨th, ef, se, C9, m9, c9, ta, tp, tq, ht9, hR⟩ := hRE
  have hbA : ¬ s.heap.size ≤ b := Nat.not_le.mpr hbl
  have hA : ∀ q : Nat, s.heap.size ≤ q → s.heap.size ≤ q := fun q h => h
  have hK := hX.1
  obtain ⟨v, S, T, hC, hM, hfin⟩ := a_start (l := l) (dC := dC) (dI := dI) (A := A) (AB := AB) (cI := cI) (cQ := cQ) (cZ := cZ) hR
  refine lv_aload_n hx hb dL_law_496 rfl (lv_at hl 1 rfl) ?_
  have hP9 : va_P (dC, dI) vwCl (hfW A cI cQ σ ++ ([(o, .inl (cL, 1, .inr (.inl f)))] ++ mW AB cI cZ τ)) H := by rw [← List.append_assoc]; exact hP
  have hD9 : va_D (fun q => s.heap.size ≤ q) (hfW A cI cQ σ ++ ([(o, .inl (cL, 1, .inr (.inl f)))] ++ mW AB cI cZ τ)) := by rw [← List.append_assoc]; exact hD
  have hFa := fa_all hD9 hS hA
  have hPl := ap_P hP9
  have hDl := ap_D hD9
  have hFl := fa_all hDl hS hA
  refine va_calli (va_runV (As := []) (rest := []) ⟨hx, hb, hml, hown, hts⟩ (hC H.size) (cwV 0 hts gL_law_X3_start rfl rfl rfl (by decide +kernel) ⟨Nat.le_of_ble_eq_true rfl, Nat.le_of_ble_eq_true rfl⟩) ⟨bl_F, va_recv hK hPl (ci := 3) (q0 := 0) rfl rfl, fun U hU hW => ⟨rfl, by rw [hU], by rw [hU]; exact hPl, hX.warm hW, hf_any hDl⟩⟩ rfl rfl hl.1 rfl (lv_room (Nat.le_of_ble_eq_true rfl)) dL_law_497 ⟨by show _ + 0 ≤ 613737; omega, by show _ + 0 ≤ 7254893; omega⟩) hS (fun q _ h => hFl q h) hFl (fun r σ1 t H locs ht hvm hw hB hz1 hk1 hS => ?_)
  obtain ⟨rfl, hSs⟩ := hw
  obtain ⟨hP1, hD1⟩ := hB
  rw [ht] at hP1
  obtain ⟨hP8, hD8⟩ := fr_L rfl hP9 hD9 hP1 hD1 hk1
  have hP : va_P (dC, dI) vwCl (LW A cI cQ cL σ1 o f ++ mW AB cI cZ τ) H := by rw [List.append_assoc]; exact hP8
  have hD : va_D (fun q => s.heap.size ≤ q) (LW A cI cQ cL σ1 o f ++ mW AB cI cZ τ) := by rw [List.append_assoc]; exact hD8.weaken (fun _ q _ h => hFa q.1 h)
  clear hP9 hD9 hP8 hD8 hP1 hD1 hk1 hz1 hPl hDl hFl hFa
  obtain ⟨v, rfl⟩ : ∃ v, v = r := ⟨r, rfl⟩
  refine lv_aload_n hx hb dL_law_500 rfl (lv_at hl 2 rfl) ?_
  have hFa := fa_all hD hS hA
  have hPm := ap_PR hP
  have hDm := ap_DR hD
  have hFm := fa_all hDm hS hA
  refine va_calli (va_runV (As := []) (rest := [.int v]) ⟨hx, hb, hml, hown, hts⟩ (hM H.size) (cwV 0 hts gL_law_X4_start rfl rfl rfl (by decide +kernel) ⟨Nat.le_of_ble_eq_true rfl, Nat.le_of_ble_eq_true rfl⟩) ⟨bm_F, va_recv hKM hPm (ci := 4) (q0 := 0) rfl rfl, fun U hU hW => ⟨rfl, by rw [hU], by rw [hU]; exact hPm, va_K.moved hW.alike hKM, hf_any hDm⟩⟩ rfl rfl hl.1 rfl (lv_room (Nat.le_of_ble_eq_true rfl)) dL_law_501 ⟨by show _ + 0 ≤ 613737; omega, by show _ + 0 ≤ 7254893; omega⟩) hS (fun q _ h => hFm q h) hFm (fun r τ1 t H locs ht hvm hw hB hz1 hk1 hS => ?_)
  obtain ⟨rfl, hTt⟩ := hw
  obtain ⟨hP1, hD1⟩ := hB
  rw [ht] at hP1
  obtain ⟨hP, hD2⟩ := fr_R rfl hP hD hP1 hD1 hk1
  have hD := hD2.weaken (B := fun q => s.heap.size ≤ q) (fun _ q _ h => hFa q.1 h)
  clear hD2 hP1 hD1 hk1 hz1 hPm hDm hFm hFa
  refine lv_icmp_eq (tgt := 1128) hx hb dL_law_504 (by decide) (fun c504_0 => ?_) (fun c504_0 => ?_)
  · skip
    refine W.widen (k := 52 + n + 1) (n := 1167 + 6 * n + 6) (by omega) (by omega) ?_
    exact ih _ _ _ _ _ _ ⟨hP, hD, hS, lv_sub hl [0, 1, 2, 3, 4] rfl, hfin _ _ hSs hTt⟩
  · exact absurd rfl c504_0
set_option maxHeartbeats 4000000 in
set_option maxRecDepth 100000 in
/-- behind -/
theorem lc_behind {p : Program} {l : Launch} {e : Env} {s : State} {m : MethodId} {below : List Frame} {meth : Method} {c : Code} {b L : Nat} {xs : Nat → Int32} {dC : Nat → ClassId} {dI : Nat → Nat → Nat} {A AB : Nat → Nat} {cI cQ cZ cL : ClassId} {o n : Nat} {H : Heap} {locs : List Loc} {ls : Array Slot} {σ : HS} {τ : MS} {f : Nat → Int64} {Q : State → Prop} (C : LC p l s m meth c b L xs dC dI cI cQ cZ cL) (hn : 6 * n + 6 ≤ L) (hI : LI s b dC dI A AB cI cQ cZ cL o n H locs ls σ τ f)
    (ih : ∀ (H : Heap) (locs : List Loc) (ls : Array Slot) (σ : HS) (τ : MS) (f : Nat → Int64), LI s b dC dI A AB cI cQ cZ cL o n H locs ls σ τ f → W p l e room_1 s m #[Value.ref b] below meth c H locs (52 + n + 1) (1167 + 6 * n + 6) Q (F0 m 1128 ls [])) :
    W p l e room_1 s m #[Value.ref b] below meth c H locs (52 + n) (1167 + 6 * n) Q (F0 m 509 ls []) := by
  obtain ⟨hx, hb, hml, hown, hts, ⟨hXs, hbl, hL⟩, hlt, hX, hKM, hKL, hH0, hN⟩ := C
  obtain ⟨hP, hD, hS, hl, hRE⟩ := hI
  obtain ⟨th, ef, se, C9, m9, c9, ta, tp, tq, ht9, hR⟩ := hRE
  have hbA : ¬ s.heap.size ≤ b := Nat.not_le.mpr hbl
  have hA : ∀ q : Nat, s.heap.size ≤ q → s.heap.size ≤ q := fun q h => h
  have hK := hX.1
  obtain ⟨oE, v, S, w, T, hC, hM, hdis⟩ := a_behind (l := l) (dC := dC) (dI := dI) (A := A) (AB := AB) (cI := cI) (cQ := cQ) (cZ := cZ) hR hlt (xs (6 * n + 1)) (xs (6 * n + 2))
  obtain ⟨k, hk0, hfin, hkz⟩ := agr_k (by decide) hdis
  refine lv_aload_n hx hb dL_law_509 rfl (lv_at hl 1 rfl) ?_
  refine lv_aload_n hx hb dL_law_510 rfl (lv_at hl 0 rfl) ?_
  refine lv_iload hx hb dL_law_511 (lv_at hl 4 rfl) ?_
  refine lv_iconst (v := 1) hx hb dL_law_513 (by decide) ?_
  refine lv_iadd hx hb dL_law_514 ?_
  refine lv_topi (fun y0 ey0 => ?_)
  obtain rfl : y0 = nI (6 * n + 1) := ey0.trans (nI_add (6 * n) 1)
  refine va_sld hx hb hXs hbl hbA hS (vp_in_nI (show 6 * n + 1 < L by omega) (by omega)) dL_law_515 ?_
  rw [nI_clamp (show 6 * n + 1 < 2 ^ 31 by omega)]
  refine lv_aload_n hx hb dL_law_516 rfl (lv_at hl 0 rfl) ?_
  refine lv_iload hx hb dL_law_517 (lv_at hl 4 rfl) ?_
  refine lv_iconst (v := 2) hx hb dL_law_519 (by decide) ?_
  refine lv_iadd hx hb dL_law_520 ?_
  refine lv_topi (fun y1 ey1 => ?_)
  obtain rfl : y1 = nI (6 * n + 2) := ey1.trans (nI_add (6 * n) 2)
  refine va_sld hx hb hXs hbl hbA hS (vp_in_nI (show 6 * n + 2 < L by omega) (by omega)) dL_law_521 ?_
  rw [nI_clamp (show 6 * n + 2 < 2 ^ 31 by omega)]
  refine lv_aload_n hx hb dL_law_522 rfl (lv_at hl 3 rfl) ?_
  have hFa := fa_all hD hS hA
  have hPl := ap_P hP
  have hDl := ap_D hD
  have hFl := fa_all hDl hS hA
  have hHl : HX (va_A (LW A cI cQ cL σ o f) H.size) s H := (hH0.kept fun q h1 h2 => hS.2.1 q h1 h2).narrow hFl
  refine va_calli (vx_runSW (As := [.ref (A 0), .int (xs (6 * n + 1)), .int (xs (6 * n + 2)), .ref o]) (rest := []) ⟨hx, hb, hml, hown, hts⟩ (w_behind l dC dI A cI cQ cL σ (xs (6 * n + 1)) (xs (6 * n + 2)) o f H.size hC hk0) (vx_cwSW 4 hts gL_law_L_behind rfl rfl rfl (by decide +kernel) ⟨Nat.le_of_ble_eq_true rfl, Nat.le_of_ble_eq_true rfl⟩) ⟨bl_L, fun U hU hW => ⟨rfl, by rw [hU], by rw [hU]; exact hPl, hX.warm hW, va_K.moved hW.alike hKL, hf_any hDl, by rw [hU]; exact HX.moved hW.alike hHl, hN.moved hW.alike⟩⟩ rfl rfl hl.1 rfl (lv_room (Nat.le_of_ble_eq_true rfl)) dL_law_523 ⟨by show _ + 1 ≤ 613737; omega, by show _ + 6 ≤ 7254893; omega⟩) hS (fun q _ h => hFl q h) hFl (fun r u t H locs ht hvm hw hB hz1 hk1 hS => ?_)
  obtain ⟨σ1, f1⟩ := u
  obtain ⟨rfl, hSs, hout⟩ := hw
  obtain ⟨hP1, hD1⟩ := hB
  rw [ht] at hP1
  obtain ⟨hP, hD2⟩ := fr_L rfl hP hD hP1 hD1 hk1
  have hD := hD2.weaken (B := fun q => s.heap.size ≤ q) (fun _ q _ h => hFa q.1 h)
  clear hD2 hP1 hD1 hk1 hz1 hPl hDl hFl hFa hHl
  refine lv_istore (lv' := [(5, .int r), (0, .ref b), (1, .ref (A 0)), (2, .ref (AB 0)), (3, .ref o), (4, .int (nI (6 * n)))]) hx hb dL_law_526 hl (by decide) rfl (fun ls hl => ?_)
  refine lv_aload_n hx hb dL_law_528 rfl (lv_at hl 3 rfl) ?_
  refine lv_aload_n hx hb dL_law_529 rfl (lv_at hl 1 rfl) ?_
  refine lv_iload hx hb dL_law_530 (lv_at hl 5 rfl) ?_
  refine lv_iconst (v := 1) hx hb dL_law_532 (by decide) ?_
  refine lv_iadd hx hb dL_law_533 ?_
  refine lv_topi (fun y2 ey2 => ?_)
  obtain rfl : y2 = nI (6 * n + 1) := ey2.trans (nI_add (6 * n) 1)
  refine va_sld hx hb hXs hbl hbA hS (vp_in_nI (show 6 * n + 1 < L by omega) (by omega)) dL_law_534 ?_
  rw [nI_clamp (show 6 * n + 1 < 2 ^ 31 by omega)]
  refine lv_aload_n hx hb dL_law_535 rfl (lv_at hl 1 rfl) ?_
  refine lv_iload hx hb dL_law_536 (lv_at hl 5 rfl) ?_
  refine lv_iconst (v := 2) hx hb dL_law_538 (by decide) ?_
  refine lv_iadd hx hb dL_law_539 ?_
  refine lv_topi (fun y3 ey3 => ?_)
  obtain rfl : y3 = nI (6 * n + 2) := ey3.trans (nI_add (6 * n) 2)
  refine va_sld hx hb hXs hbl hbA hS (vp_in_nI (show 6 * n + 2 < L by omega) (by omega)) dL_law_540 ?_
  rw [nI_clamp (show 6 * n + 2 < 2 ^ 31 by omega)]
  obtain ⟨k, rfl⟩ : ∃ k, k = r := ⟨r, rfl⟩
  have hFa := fa_all hD hS hA
  have hPm := ap_PR hP
  have hDm := ap_DR hD
  have hFm := fa_all hDm hS hA
  refine va_calli (va_runV (As := [.int (xs (6 * n + 1)), .int (xs (6 * n + 2))]) (rest := []) ⟨hx, hb, hml, hown, hts⟩ (hM H.size) (cwV 2 hts gL_law_X4_behind rfl rfl rfl (by decide +kernel) ⟨Nat.le_of_ble_eq_true rfl, Nat.le_of_ble_eq_true rfl⟩) ⟨bm_F, va_recv hKM hPm (ci := 4) (q0 := 0) rfl rfl, fun U hU hW => ⟨rfl, by rw [hU], by rw [hU]; exact hPm, va_K.moved hW.alike hKM, hf_any hDm⟩⟩ rfl rfl hl.1 rfl (lv_room (Nat.le_of_ble_eq_true rfl)) dL_law_541 ⟨by show _ + 0 ≤ 613737; omega, by show _ + 0 ≤ 7254893; omega⟩) hS (fun q _ h => hFm q h) hFm (fun r τ1 t H locs ht hvm hw hB hz1 hk1 hS => ?_)
  obtain ⟨rfl, hTt⟩ := hw
  obtain ⟨hP1, hD1⟩ := hB
  rw [ht] at hP1
  obtain ⟨hP, hD2⟩ := fr_R rfl hP hD hP1 hD1 hk1
  have hD := hD2.weaken (B := fun q => s.heap.size ≤ q) (fun _ q _ h => hFa q.1 h)
  clear hD2 hP1 hD1 hk1 hz1 hPm hDm hFm hFa
  refine lv_istore (lv' := [(6, .int r), (5, .int k), (0, .ref b), (1, .ref (A 0)), (2, .ref (AB 0)), (3, .ref o), (4, .int (nI (6 * n)))]) hx hb dL_law_544 hl (by decide) rfl (fun ls hl => ?_)
  refine lv_aload_n hx hb dL_law_546 rfl (lv_at hl 4 rfl) ?_
  have hPm := ap_PR hP
  refine vp_callSi (W.runV (As := []) (rest := []) ⟨hx, hb, hml, hown, hts⟩ (m_thrown l dC dI AB cI cZ τ1) (cwV 0 hts gL_law_X4_thrown rfl rfl rfl (by decide +kernel) ⟨Nat.le_of_ble_eq_true rfl, Nat.le_of_ble_eq_true rfl⟩) ⟨bm_P, va_recv hKM hPm (ci := 4) (q0 := 0) rfl rfl, fun U hU hW => ⟨rfl, by rw [hU]; exact hPm, va_K.moved hW.alike hKM⟩⟩ rfl rfl hl.1 rfl (lv_room (Nat.le_of_ble_eq_true rfl)) dL_law_547 ⟨by show _ + 0 ≤ 613737; omega, by show _ + 0 ≤ 7254893; omega⟩) (fun r2 er => ?_)
  obtain ⟨hthr, hRE⟩ := hfin _ _ hSs hTt
  have er : r2 = k := er.trans hthr
  clear hPm
  refine lv_iload hx hb dL_law_550 (lv_at hl 1 rfl) ?_
  refine lv_icmp_eq (tgt := 557) hx hb dL_law_552 (by decide) (fun c552_4 => ?_) (fun c552_4 => ?_)
  · skip
    refine lv_iload hx hb dL_law_557 (lv_at hl 1 rfl) ?_
    refine lv_if_ne (tgt := 574) hx hb dL_law_559 (by decide) (fun c559_5 => ?_) (fun c559_5 => ?_)
    · skip
      refine lv_goto (tgt := 1128) hx hb dL_law_574 (by decide) ?_
      exact ih _ _ _ _ _ _ ⟨hP, hD, hS, lv_sub hl [2, 3, 4, 5, 6] rfl, hRE⟩
    · skip
      refine lv_aload_n hx hb dL_law_562 rfl (lv_at hl 5 rfl) ?_
      refine lv_iconst (v := 0) hx hb dL_law_563 (by decide) ?_
      have hz0 : k = 0 := c559_5
      obtain ⟨hnone, hwv⟩ := hkz hz0
      have hout := hout hnone
      refine va_lald hx hb hKL hP 24 0 rfl rfl in01 dL_law_564 ?_
      refine lv_iload hx hb dL_law_565 (lv_at hl 0 rfl) ?_
      refine lv_i2l (v := r.toInt64) hx hb dL_law_567 rfl ?_
      refine lw_lcmp hx hb dL_law_568 (hout.trans (by rw [hwv])) ?_
      refine lv_if_eq (tgt := 574) hx hb dL_law_569 (by decide) (fun c569_6 => ?_) (fun c569_6 => ?_)
      · skip
        refine lv_goto (tgt := 1128) hx hb dL_law_574 (by decide) ?_
        exact ih _ _ _ _ _ _ ⟨hP, hD, hS, lv_sub hl [2, 3, 4, 5, 6] rfl, hRE⟩
      · exact absurd rfl c569_6
  · exact absurd er c552_4
set_option maxHeartbeats 4000000 in
set_option maxRecDepth 100000 in
/-- least -/
theorem lc_least {p : Program} {l : Launch} {e : Env} {s : State} {m : MethodId} {below : List Frame} {meth : Method} {c : Code} {b L : Nat} {xs : Nat → Int32} {dC : Nat → ClassId} {dI : Nat → Nat → Nat} {A AB : Nat → Nat} {cI cQ cZ cL : ClassId} {o n : Nat} {H : Heap} {locs : List Loc} {ls : Array Slot} {σ : HS} {τ : MS} {f : Nat → Int64} {Q : State → Prop} (C : LC p l s m meth c b L xs dC dI cI cQ cZ cL) (hn : 6 * n + 6 ≤ L) (hI : LI s b dC dI A AB cI cQ cZ cL o n H locs ls σ τ f)
    (ih : ∀ (H : Heap) (locs : List Loc) (ls : Array Slot) (σ : HS) (τ : MS) (f : Nat → Int64), LI s b dC dI A AB cI cQ cZ cL o n H locs ls σ τ f → W p l e room_1 s m #[Value.ref b] below meth c H locs (52 + n + 1) (1167 + 6 * n + 6) Q (F0 m 1128 ls [])) :
    W p l e room_1 s m #[Value.ref b] below meth c H locs (52 + n) (1167 + 6 * n) Q (F0 m 577 ls []) := by
  obtain ⟨hx, hb, hml, hown, hts, ⟨hXs, hbl, hL⟩, hlt, hX, hKM, hKL, hH0, hN⟩ := C
  obtain ⟨hP, hD, hS, hl, hRE⟩ := hI
  obtain ⟨th, ef, se, C9, m9, c9, ta, tp, tq, ht9, hR⟩ := hRE
  have hbA : ¬ s.heap.size ≤ b := Nat.not_le.mpr hbl
  have hA : ∀ q : Nat, s.heap.size ≤ q → s.heap.size ≤ q := fun q h => h
  have hK := hX.1
  obtain ⟨oE, v, S, w, T, hC, hM, hdis⟩ := a_least (l := l) (dC := dC) (dI := dI) (A := A) (AB := AB) (cI := cI) (cQ := cQ) (cZ := cZ) hR hlt (xs (6 * n + 1)) (xs (6 * n + 2))
  obtain ⟨k, hk0, hfin, hkz⟩ := agr_k (by decide) hdis
  refine lv_aload_n hx hb dL_law_577 rfl (lv_at hl 1 rfl) ?_
  refine lv_aload_n hx hb dL_law_578 rfl (lv_at hl 0 rfl) ?_
  refine lv_iload hx hb dL_law_579 (lv_at hl 4 rfl) ?_
  refine lv_iconst (v := 1) hx hb dL_law_581 (by decide) ?_
  refine lv_iadd hx hb dL_law_582 ?_
  refine lv_topi (fun y0 ey0 => ?_)
  obtain rfl : y0 = nI (6 * n + 1) := ey0.trans (nI_add (6 * n) 1)
  refine va_sld hx hb hXs hbl hbA hS (vp_in_nI (show 6 * n + 1 < L by omega) (by omega)) dL_law_583 ?_
  rw [nI_clamp (show 6 * n + 1 < 2 ^ 31 by omega)]
  refine lv_aload_n hx hb dL_law_584 rfl (lv_at hl 0 rfl) ?_
  refine lv_iload hx hb dL_law_585 (lv_at hl 4 rfl) ?_
  refine lv_iconst (v := 2) hx hb dL_law_587 (by decide) ?_
  refine lv_iadd hx hb dL_law_588 ?_
  refine lv_topi (fun y1 ey1 => ?_)
  obtain rfl : y1 = nI (6 * n + 2) := ey1.trans (nI_add (6 * n) 2)
  refine va_sld hx hb hXs hbl hbA hS (vp_in_nI (show 6 * n + 2 < L by omega) (by omega)) dL_law_589 ?_
  rw [nI_clamp (show 6 * n + 2 < 2 ^ 31 by omega)]
  refine lv_aload_n hx hb dL_law_590 rfl (lv_at hl 3 rfl) ?_
  have hFa := fa_all hD hS hA
  have hPl := ap_P hP
  have hDl := ap_D hD
  have hFl := fa_all hDl hS hA
  have hHl : HX (va_A (LW A cI cQ cL σ o f) H.size) s H := (hH0.kept fun q h1 h2 => hS.2.1 q h1 h2).narrow hFl
  refine va_calli (vx_runSW (As := [.ref (A 0), .int (xs (6 * n + 1)), .int (xs (6 * n + 2)), .ref o]) (rest := []) ⟨hx, hb, hml, hown, hts⟩ (w_least l dC dI A cI cQ cL σ (xs (6 * n + 1)) (xs (6 * n + 2)) o f H.size hC hk0) (vx_cwSW 4 hts gL_law_L_least rfl rfl rfl (by decide +kernel) ⟨Nat.le_of_ble_eq_true rfl, Nat.le_of_ble_eq_true rfl⟩) ⟨bl_L, fun U hU hW => ⟨rfl, by rw [hU], by rw [hU]; exact hPl, hX.warm hW, va_K.moved hW.alike hKL, hf_any hDl, by rw [hU]; exact HX.moved hW.alike hHl, hN.moved hW.alike⟩⟩ rfl rfl hl.1 rfl (lv_room (Nat.le_of_ble_eq_true rfl)) dL_law_591 ⟨by show _ + 1 ≤ 613737; omega, by show _ + 6 ≤ 7254893; omega⟩) hS (fun q _ h => hFl q h) hFl (fun r u t H locs ht hvm hw hB hz1 hk1 hS => ?_)
  obtain ⟨σ1, f1⟩ := u
  obtain ⟨rfl, hSs, hout⟩ := hw
  obtain ⟨hP1, hD1⟩ := hB
  rw [ht] at hP1
  obtain ⟨hP, hD2⟩ := fr_L rfl hP hD hP1 hD1 hk1
  have hD := hD2.weaken (B := fun q => s.heap.size ≤ q) (fun _ q _ h => hFa q.1 h)
  clear hD2 hP1 hD1 hk1 hz1 hPl hDl hFl hFa hHl
  refine lv_istore (lv' := [(5, .int r), (0, .ref b), (1, .ref (A 0)), (2, .ref (AB 0)), (3, .ref o), (4, .int (nI (6 * n)))]) hx hb dL_law_594 hl (by decide) rfl (fun ls hl => ?_)
  refine lv_aload_n hx hb dL_law_596 rfl (lv_at hl 3 rfl) ?_
  refine lv_aload_n hx hb dL_law_597 rfl (lv_at hl 1 rfl) ?_
  refine lv_iload hx hb dL_law_598 (lv_at hl 5 rfl) ?_
  refine lv_iconst (v := 1) hx hb dL_law_600 (by decide) ?_
  refine lv_iadd hx hb dL_law_601 ?_
  refine lv_topi (fun y2 ey2 => ?_)
  obtain rfl : y2 = nI (6 * n + 1) := ey2.trans (nI_add (6 * n) 1)
  refine va_sld hx hb hXs hbl hbA hS (vp_in_nI (show 6 * n + 1 < L by omega) (by omega)) dL_law_602 ?_
  rw [nI_clamp (show 6 * n + 1 < 2 ^ 31 by omega)]
  refine lv_aload_n hx hb dL_law_603 rfl (lv_at hl 1 rfl) ?_
  refine lv_iload hx hb dL_law_604 (lv_at hl 5 rfl) ?_
  refine lv_iconst (v := 2) hx hb dL_law_606 (by decide) ?_
  refine lv_iadd hx hb dL_law_607 ?_
  refine lv_topi (fun y3 ey3 => ?_)
  obtain rfl : y3 = nI (6 * n + 2) := ey3.trans (nI_add (6 * n) 2)
  refine va_sld hx hb hXs hbl hbA hS (vp_in_nI (show 6 * n + 2 < L by omega) (by omega)) dL_law_608 ?_
  rw [nI_clamp (show 6 * n + 2 < 2 ^ 31 by omega)]
  obtain ⟨k, rfl⟩ : ∃ k, k = r := ⟨r, rfl⟩
  have hFa := fa_all hD hS hA
  have hPm := ap_PR hP
  have hDm := ap_DR hD
  have hFm := fa_all hDm hS hA
  refine va_calli (va_runV (As := [.int (xs (6 * n + 1)), .int (xs (6 * n + 2))]) (rest := []) ⟨hx, hb, hml, hown, hts⟩ (hM H.size) (cwV 2 hts gL_law_X4_least rfl rfl rfl (by decide +kernel) ⟨Nat.le_of_ble_eq_true rfl, Nat.le_of_ble_eq_true rfl⟩) ⟨bm_F, va_recv hKM hPm (ci := 4) (q0 := 0) rfl rfl, fun U hU hW => ⟨rfl, by rw [hU], by rw [hU]; exact hPm, va_K.moved hW.alike hKM, hf_any hDm⟩⟩ rfl rfl hl.1 rfl (lv_room (Nat.le_of_ble_eq_true rfl)) dL_law_609 ⟨by show _ + 0 ≤ 613737; omega, by show _ + 0 ≤ 7254893; omega⟩) hS (fun q _ h => hFm q h) hFm (fun r τ1 t H locs ht hvm hw hB hz1 hk1 hS => ?_)
  obtain ⟨rfl, hTt⟩ := hw
  obtain ⟨hP1, hD1⟩ := hB
  rw [ht] at hP1
  obtain ⟨hP, hD2⟩ := fr_R rfl hP hD hP1 hD1 hk1
  have hD := hD2.weaken (B := fun q => s.heap.size ≤ q) (fun _ q _ h => hFa q.1 h)
  clear hD2 hP1 hD1 hk1 hz1 hPm hDm hFm hFa
  refine lv_istore (lv' := [(6, .int r), (5, .int k), (0, .ref b), (1, .ref (A 0)), (2, .ref (AB 0)), (3, .ref o), (4, .int (nI (6 * n)))]) hx hb dL_law_612 hl (by decide) rfl (fun ls hl => ?_)
  refine lv_aload_n hx hb dL_law_614 rfl (lv_at hl 4 rfl) ?_
  have hPm := ap_PR hP
  refine vp_callSi (W.runV (As := []) (rest := []) ⟨hx, hb, hml, hown, hts⟩ (m_thrown l dC dI AB cI cZ τ1) (cwV 0 hts gL_law_X4_thrown rfl rfl rfl (by decide +kernel) ⟨Nat.le_of_ble_eq_true rfl, Nat.le_of_ble_eq_true rfl⟩) ⟨bm_P, va_recv hKM hPm (ci := 4) (q0 := 0) rfl rfl, fun U hU hW => ⟨rfl, by rw [hU]; exact hPm, va_K.moved hW.alike hKM⟩⟩ rfl rfl hl.1 rfl (lv_room (Nat.le_of_ble_eq_true rfl)) dL_law_615 ⟨by show _ + 0 ≤ 613737; omega, by show _ + 0 ≤ 7254893; omega⟩) (fun r2 er => ?_)
  obtain ⟨hthr, hRE⟩ := hfin _ _ hSs hTt
  have er : r2 = k := er.trans hthr
  clear hPm
  refine lv_iload hx hb dL_law_618 (lv_at hl 1 rfl) ?_
  refine lv_icmp_eq (tgt := 625) hx hb dL_law_620 (by decide) (fun c620_4 => ?_) (fun c620_4 => ?_)
  · skip
    refine lv_iload hx hb dL_law_625 (lv_at hl 1 rfl) ?_
    refine lv_if_ne (tgt := 642) hx hb dL_law_627 (by decide) (fun c627_5 => ?_) (fun c627_5 => ?_)
    · skip
      refine lv_goto (tgt := 1128) hx hb dL_law_642 (by decide) ?_
      exact ih _ _ _ _ _ _ ⟨hP, hD, hS, lv_sub hl [2, 3, 4, 5, 6] rfl, hRE⟩
    · skip
      refine lv_aload_n hx hb dL_law_630 rfl (lv_at hl 5 rfl) ?_
      refine lv_iconst (v := 0) hx hb dL_law_631 (by decide) ?_
      have hz0 : k = 0 := c627_5
      obtain ⟨hnone, hwv⟩ := hkz hz0
      have hout := hout hnone
      refine va_lald hx hb hKL hP 24 0 rfl rfl in01 dL_law_632 ?_
      refine lv_iload hx hb dL_law_633 (lv_at hl 0 rfl) ?_
      refine lv_i2l (v := r.toInt64) hx hb dL_law_635 rfl ?_
      refine lw_lcmp hx hb dL_law_636 (hout.trans (by rw [hwv])) ?_
      refine lv_if_eq (tgt := 642) hx hb dL_law_637 (by decide) (fun c637_6 => ?_) (fun c637_6 => ?_)
      · skip
        refine lv_goto (tgt := 1128) hx hb dL_law_642 (by decide) ?_
        exact ih _ _ _ _ _ _ ⟨hP, hD, hS, lv_sub hl [2, 3, 4, 5, 6] rfl, hRE⟩
      · exact absurd rfl c637_6
  · exact absurd er c620_4
set_option maxHeartbeats 4000000 in
set_option maxRecDepth 100000 in
/-- plan -/
theorem lc_plan {p : Program} {l : Launch} {e : Env} {s : State} {m : MethodId} {below : List Frame} {meth : Method} {c : Code} {b L : Nat} {xs : Nat → Int32} {dC : Nat → ClassId} {dI : Nat → Nat → Nat} {A AB : Nat → Nat} {cI cQ cZ cL : ClassId} {o n : Nat} {H : Heap} {locs : List Loc} {ls : Array Slot} {σ : HS} {τ : MS} {f : Nat → Int64} {Q : State → Prop} (C : LC p l s m meth c b L xs dC dI cI cQ cZ cL) (hn : 6 * n + 6 ≤ L) (hI : LI s b dC dI A AB cI cQ cZ cL o n H locs ls σ τ f)
    (ih : ∀ (H : Heap) (locs : List Loc) (ls : Array Slot) (σ : HS) (τ : MS) (f : Nat → Int64), LI s b dC dI A AB cI cQ cZ cL o n H locs ls σ τ f → W p l e room_1 s m #[Value.ref b] below meth c H locs (52 + n + 1) (1167 + 6 * n + 6) Q (F0 m 1128 ls [])) :
    W p l e room_1 s m #[Value.ref b] below meth c H locs (52 + n) (1167 + 6 * n) Q (F0 m 645 ls []) := by
  obtain ⟨hx, hb, hml, hown, hts, ⟨hXs, hbl, hL⟩, hlt, hX, hKM, hKL, hH0, hN⟩ := C
  obtain ⟨hP, hD, hS, hl, hRE⟩ := hI
  obtain ⟨th, ef, se, C9, m9, c9, ta, tp, tq, ht9, hR⟩ := hRE
  have hbA : ¬ s.heap.size ≤ b := Nat.not_le.mpr hbl
  have hA : ∀ q : Nat, s.heap.size ≤ q → s.heap.size ≤ q := fun q h => h
  have hK := hX.1
  obtain ⟨oE, v, S, w, T, hC, hM, hdis⟩ := a_plan (l := l) (dC := dC) (dI := dI) (A := A) (AB := AB) (cI := cI) (cQ := cQ) (cZ := cZ) hR hlt (xs (6 * n + 1))
  obtain ⟨k, hk0, hfin, hkz⟩ := agr_k (by decide) hdis
  refine lv_aload_n hx hb dL_law_645 rfl (lv_at hl 1 rfl) ?_
  refine lv_aload_n hx hb dL_law_646 rfl (lv_at hl 0 rfl) ?_
  refine lv_iload hx hb dL_law_647 (lv_at hl 4 rfl) ?_
  refine lv_iconst (v := 1) hx hb dL_law_649 (by decide) ?_
  refine lv_iadd hx hb dL_law_650 ?_
  refine lv_topi (fun y0 ey0 => ?_)
  obtain rfl : y0 = nI (6 * n + 1) := ey0.trans (nI_add (6 * n) 1)
  refine va_sld hx hb hXs hbl hbA hS (vp_in_nI (show 6 * n + 1 < L by omega) (by omega)) dL_law_651 ?_
  rw [nI_clamp (show 6 * n + 1 < 2 ^ 31 by omega)]
  refine lv_aload_n hx hb dL_law_652 rfl (lv_at hl 3 rfl) ?_
  have hFa := fa_all hD hS hA
  have hPl := ap_P hP
  have hDl := ap_D hD
  have hFl := fa_all hDl hS hA
  have hHl : HX (va_A (LW A cI cQ cL σ o f) H.size) s H := (hH0.kept fun q h1 h2 => hS.2.1 q h1 h2).narrow hFl
  refine va_calli (vx_runSW (As := [.ref (A 0), .int (xs (6 * n + 1)), .ref o]) (rest := []) ⟨hx, hb, hml, hown, hts⟩ (w_plan l dC dI A cI cQ cL σ (xs (6 * n + 1)) o f H.size hC hk0) (vx_cwSW 3 hts gL_law_L_plan rfl rfl rfl (by decide +kernel) ⟨Nat.le_of_ble_eq_true rfl, Nat.le_of_ble_eq_true rfl⟩) ⟨bl_L, fun U hU hW => ⟨rfl, by rw [hU], by rw [hU]; exact hPl, hX.warm hW, va_K.moved hW.alike hKL, hf_any hDl, by rw [hU]; exact HX.moved hW.alike hHl, hN.moved hW.alike⟩⟩ rfl rfl hl.1 rfl (lv_room (Nat.le_of_ble_eq_true rfl)) dL_law_653 ⟨by show _ + 1 ≤ 613737; omega, by show _ + 6 ≤ 7254893; omega⟩) hS (fun q _ h => hFl q h) hFl (fun r u t H locs ht hvm hw hB hz1 hk1 hS => ?_)
  obtain ⟨σ1, f1⟩ := u
  obtain ⟨rfl, hSs, hout⟩ := hw
  obtain ⟨hP1, hD1⟩ := hB
  rw [ht] at hP1
  obtain ⟨hP, hD2⟩ := fr_L rfl hP hD hP1 hD1 hk1
  have hD := hD2.weaken (B := fun q => s.heap.size ≤ q) (fun _ q _ h => hFa q.1 h)
  clear hD2 hP1 hD1 hk1 hz1 hPl hDl hFl hFa hHl
  refine lv_istore (lv' := [(5, .int r), (0, .ref b), (1, .ref (A 0)), (2, .ref (AB 0)), (3, .ref o), (4, .int (nI (6 * n)))]) hx hb dL_law_656 hl (by decide) rfl (fun ls hl => ?_)
  refine lv_aload_n hx hb dL_law_658 rfl (lv_at hl 3 rfl) ?_
  refine lv_aload_n hx hb dL_law_659 rfl (lv_at hl 1 rfl) ?_
  refine lv_iload hx hb dL_law_660 (lv_at hl 5 rfl) ?_
  refine lv_iconst (v := 1) hx hb dL_law_662 (by decide) ?_
  refine lv_iadd hx hb dL_law_663 ?_
  refine lv_topi (fun y1 ey1 => ?_)
  obtain rfl : y1 = nI (6 * n + 1) := ey1.trans (nI_add (6 * n) 1)
  refine va_sld hx hb hXs hbl hbA hS (vp_in_nI (show 6 * n + 1 < L by omega) (by omega)) dL_law_664 ?_
  rw [nI_clamp (show 6 * n + 1 < 2 ^ 31 by omega)]
  obtain ⟨k, rfl⟩ : ∃ k, k = r := ⟨r, rfl⟩
  have hFa := fa_all hD hS hA
  have hPm := ap_PR hP
  have hDm := ap_DR hD
  have hFm := fa_all hDm hS hA
  refine va_calli (va_runV (As := [.int (xs (6 * n + 1))]) (rest := []) ⟨hx, hb, hml, hown, hts⟩ (hM H.size) (cwV 1 hts gL_law_X4_plan rfl rfl rfl (by decide +kernel) ⟨Nat.le_of_ble_eq_true rfl, Nat.le_of_ble_eq_true rfl⟩) ⟨bm_F, va_recv hKM hPm (ci := 4) (q0 := 0) rfl rfl, fun U hU hW => ⟨rfl, by rw [hU], by rw [hU]; exact hPm, va_K.moved hW.alike hKM, hf_any hDm⟩⟩ rfl rfl hl.1 rfl (lv_room (Nat.le_of_ble_eq_true rfl)) dL_law_665 ⟨by show _ + 0 ≤ 613737; omega, by show _ + 0 ≤ 7254893; omega⟩) hS (fun q _ h => hFm q h) hFm (fun r τ1 t H locs ht hvm hw hB hz1 hk1 hS => ?_)
  obtain ⟨rfl, hTt⟩ := hw
  obtain ⟨hP1, hD1⟩ := hB
  rw [ht] at hP1
  obtain ⟨hP, hD2⟩ := fr_R rfl hP hD hP1 hD1 hk1
  have hD := hD2.weaken (B := fun q => s.heap.size ≤ q) (fun _ q _ h => hFa q.1 h)
  clear hD2 hP1 hD1 hk1 hz1 hPm hDm hFm hFa
  refine lv_istore (lv' := [(6, .int r), (5, .int k), (0, .ref b), (1, .ref (A 0)), (2, .ref (AB 0)), (3, .ref o), (4, .int (nI (6 * n)))]) hx hb dL_law_668 hl (by decide) rfl (fun ls hl => ?_)
  refine lv_aload_n hx hb dL_law_670 rfl (lv_at hl 4 rfl) ?_
  have hPm := ap_PR hP
  refine vp_callSi (W.runV (As := []) (rest := []) ⟨hx, hb, hml, hown, hts⟩ (m_thrown l dC dI AB cI cZ τ1) (cwV 0 hts gL_law_X4_thrown rfl rfl rfl (by decide +kernel) ⟨Nat.le_of_ble_eq_true rfl, Nat.le_of_ble_eq_true rfl⟩) ⟨bm_P, va_recv hKM hPm (ci := 4) (q0 := 0) rfl rfl, fun U hU hW => ⟨rfl, by rw [hU]; exact hPm, va_K.moved hW.alike hKM⟩⟩ rfl rfl hl.1 rfl (lv_room (Nat.le_of_ble_eq_true rfl)) dL_law_671 ⟨by show _ + 0 ≤ 613737; omega, by show _ + 0 ≤ 7254893; omega⟩) (fun r2 er => ?_)
  obtain ⟨hthr, hRE⟩ := hfin _ _ hSs hTt
  have er : r2 = k := er.trans hthr
  clear hPm
  refine lv_iload hx hb dL_law_674 (lv_at hl 1 rfl) ?_
  refine lv_icmp_eq (tgt := 681) hx hb dL_law_676 (by decide) (fun c676_2 => ?_) (fun c676_2 => ?_)
  · skip
    refine lv_iload hx hb dL_law_681 (lv_at hl 1 rfl) ?_
    refine lv_if_ne (tgt := 698) hx hb dL_law_683 (by decide) (fun c683_3 => ?_) (fun c683_3 => ?_)
    · skip
      refine lv_goto (tgt := 1128) hx hb dL_law_698 (by decide) ?_
      exact ih _ _ _ _ _ _ ⟨hP, hD, hS, lv_sub hl [2, 3, 4, 5, 6] rfl, hRE⟩
    · skip
      refine lv_aload_n hx hb dL_law_686 rfl (lv_at hl 5 rfl) ?_
      refine lv_iconst (v := 0) hx hb dL_law_687 (by decide) ?_
      have hz0 : k = 0 := c683_3
      obtain ⟨hnone, hwv⟩ := hkz hz0
      have hout := hout hnone
      refine va_lald hx hb hKL hP 24 0 rfl rfl in01 dL_law_688 ?_
      refine lv_iload hx hb dL_law_689 (lv_at hl 0 rfl) ?_
      refine lv_i2l (v := r.toInt64) hx hb dL_law_691 rfl ?_
      refine lw_lcmp hx hb dL_law_692 (hout.trans (by rw [hwv])) ?_
      refine lv_if_eq (tgt := 698) hx hb dL_law_693 (by decide) (fun c693_4 => ?_) (fun c693_4 => ?_)
      · skip
        refine lv_goto (tgt := 1128) hx hb dL_law_698 (by decide) ?_
        exact ih _ _ _ _ _ _ ⟨hP, hD, hS, lv_sub hl [2, 3, 4, 5, 6] rfl, hRE⟩
      · exact absurd rfl c693_4
  · exact absurd er c676_2
set_option maxHeartbeats 4000000 in
set_option maxRecDepth 100000 in
/-- nodes -/
theorem lc_nodes {p : Program} {l : Launch} {e : Env} {s : State} {m : MethodId} {below : List Frame} {meth : Method} {c : Code} {b L : Nat} {xs : Nat → Int32} {dC : Nat → ClassId} {dI : Nat → Nat → Nat} {A AB : Nat → Nat} {cI cQ cZ cL : ClassId} {o n : Nat} {H : Heap} {locs : List Loc} {ls : Array Slot} {σ : HS} {τ : MS} {f : Nat → Int64} {Q : State → Prop} (C : LC p l s m meth c b L xs dC dI cI cQ cZ cL) (hn : 6 * n + 6 ≤ L) (hI : LI s b dC dI A AB cI cQ cZ cL o n H locs ls σ τ f)
    (ih : ∀ (H : Heap) (locs : List Loc) (ls : Array Slot) (σ : HS) (τ : MS) (f : Nat → Int64), LI s b dC dI A AB cI cQ cZ cL o n H locs ls σ τ f → W p l e room_1 s m #[Value.ref b] below meth c H locs (52 + n + 1) (1167 + 6 * n + 6) Q (F0 m 1128 ls [])) :
    W p l e room_1 s m #[Value.ref b] below meth c H locs (52 + n) (1167 + 6 * n) Q (F0 m 701 ls []) := by
  obtain ⟨hx, hb, hml, hown, hts, ⟨hXs, hbl, hL⟩, hlt, hX, hKM, hKL, hH0, hN⟩ := C
  obtain ⟨hP, hD, hS, hl, hRE⟩ := hI
  obtain ⟨th, ef, se, C9, m9, c9, ta, tp, tq, ht9, hR⟩ := hRE
  have hbA : ¬ s.heap.size ≤ b := Nat.not_le.mpr hbl
  have hA : ∀ q : Nat, s.heap.size ≤ q → s.heap.size ≤ q := fun q h => h
  have hK := hX.1
  obtain ⟨v, S, T, hC, hM, hfin⟩ := a_nodes (l := l) (dC := dC) (dI := dI) (A := A) (AB := AB) (cI := cI) (cQ := cQ) (cZ := cZ) hR
  refine lv_aload_n hx hb dL_law_701 rfl (lv_at hl 1 rfl) ?_
  have hP9 : va_P (dC, dI) vwCl (hfW A cI cQ σ ++ ([(o, .inl (cL, 1, .inr (.inl f)))] ++ mW AB cI cZ τ)) H := by rw [← List.append_assoc]; exact hP
  have hD9 : va_D (fun q => s.heap.size ≤ q) (hfW A cI cQ σ ++ ([(o, .inl (cL, 1, .inr (.inl f)))] ++ mW AB cI cZ τ)) := by rw [← List.append_assoc]; exact hD
  have hFa := fa_all hD9 hS hA
  have hPl := ap_P hP9
  have hDl := ap_D hD9
  have hFl := fa_all hDl hS hA
  refine va_calli (va_runV (As := []) (rest := []) ⟨hx, hb, hml, hown, hts⟩ (hC H.size) (cwV 0 hts gL_law_X3_nodes rfl rfl rfl (by decide +kernel) ⟨Nat.le_of_ble_eq_true rfl, Nat.le_of_ble_eq_true rfl⟩) ⟨bl_F, va_recv hK hPl (ci := 3) (q0 := 0) rfl rfl, fun U hU hW => ⟨rfl, by rw [hU], by rw [hU]; exact hPl, hX.warm hW, hf_any hDl⟩⟩ rfl rfl hl.1 rfl (lv_room (Nat.le_of_ble_eq_true rfl)) dL_law_702 ⟨by show _ + 0 ≤ 613737; omega, by show _ + 0 ≤ 7254893; omega⟩) hS (fun q _ h => hFl q h) hFl (fun r σ1 t H locs ht hvm hw hB hz1 hk1 hS => ?_)
  obtain ⟨rfl, hSs⟩ := hw
  obtain ⟨hP1, hD1⟩ := hB
  rw [ht] at hP1
  obtain ⟨hP8, hD8⟩ := fr_L rfl hP9 hD9 hP1 hD1 hk1
  have hP : va_P (dC, dI) vwCl (LW A cI cQ cL σ1 o f ++ mW AB cI cZ τ) H := by rw [List.append_assoc]; exact hP8
  have hD : va_D (fun q => s.heap.size ≤ q) (LW A cI cQ cL σ1 o f ++ mW AB cI cZ τ) := by rw [List.append_assoc]; exact hD8.weaken (fun _ q _ h => hFa q.1 h)
  clear hP9 hD9 hP8 hD8 hP1 hD1 hk1 hz1 hPl hDl hFl hFa
  obtain ⟨v, rfl⟩ : ∃ v, v = r := ⟨r, rfl⟩
  refine lv_aload_n hx hb dL_law_705 rfl (lv_at hl 2 rfl) ?_
  have hFa := fa_all hD hS hA
  have hPm := ap_PR hP
  have hDm := ap_DR hD
  have hFm := fa_all hDm hS hA
  refine va_calli (va_runV (As := []) (rest := [.int v]) ⟨hx, hb, hml, hown, hts⟩ (hM H.size) (cwV 0 hts gL_law_X4_nodes rfl rfl rfl (by decide +kernel) ⟨Nat.le_of_ble_eq_true rfl, Nat.le_of_ble_eq_true rfl⟩) ⟨bm_F, va_recv hKM hPm (ci := 4) (q0 := 0) rfl rfl, fun U hU hW => ⟨rfl, by rw [hU], by rw [hU]; exact hPm, va_K.moved hW.alike hKM, hf_any hDm⟩⟩ rfl rfl hl.1 rfl (lv_room (Nat.le_of_ble_eq_true rfl)) dL_law_706 ⟨by show _ + 0 ≤ 613737; omega, by show _ + 0 ≤ 7254893; omega⟩) hS (fun q _ h => hFm q h) hFm (fun r τ1 t H locs ht hvm hw hB hz1 hk1 hS => ?_)
  obtain ⟨rfl, hTt⟩ := hw
  obtain ⟨hP1, hD1⟩ := hB
  rw [ht] at hP1
  obtain ⟨hP, hD2⟩ := fr_R rfl hP hD hP1 hD1 hk1
  have hD := hD2.weaken (B := fun q => s.heap.size ≤ q) (fun _ q _ h => hFa q.1 h)
  clear hD2 hP1 hD1 hk1 hz1 hPm hDm hFm hFa
  refine lv_icmp_eq (tgt := 1128) hx hb dL_law_709 (by decide) (fun c709_0 => ?_) (fun c709_0 => ?_)
  · skip
    refine W.widen (k := 52 + n + 1) (n := 1167 + 6 * n + 6) (by omega) (by omega) ?_
    exact ih _ _ _ _ _ _ ⟨hP, hD, hS, lv_sub hl [0, 1, 2, 3, 4] rfl, hfin _ _ hSs hTt⟩
  · exact absurd rfl c709_0
set_option maxHeartbeats 4000000 in
set_option maxRecDepth 100000 in
/-- node -/
theorem lc_node {p : Program} {l : Launch} {e : Env} {s : State} {m : MethodId} {below : List Frame} {meth : Method} {c : Code} {b L : Nat} {xs : Nat → Int32} {dC : Nat → ClassId} {dI : Nat → Nat → Nat} {A AB : Nat → Nat} {cI cQ cZ cL : ClassId} {o n : Nat} {H : Heap} {locs : List Loc} {ls : Array Slot} {σ : HS} {τ : MS} {f : Nat → Int64} {Q : State → Prop} (C : LC p l s m meth c b L xs dC dI cI cQ cZ cL) (hn : 6 * n + 6 ≤ L) (hI : LI s b dC dI A AB cI cQ cZ cL o n H locs ls σ τ f)
    (ih : ∀ (H : Heap) (locs : List Loc) (ls : Array Slot) (σ : HS) (τ : MS) (f : Nat → Int64), LI s b dC dI A AB cI cQ cZ cL o n H locs ls σ τ f → W p l e room_1 s m #[Value.ref b] below meth c H locs (52 + n + 1) (1167 + 6 * n + 6) Q (F0 m 1128 ls [])) :
    W p l e room_1 s m #[Value.ref b] below meth c H locs (52 + n) (1167 + 6 * n) Q (F0 m 714 ls []) := by
  obtain ⟨hx, hb, hml, hown, hts, ⟨hXs, hbl, hL⟩, hlt, hX, hKM, hKL, hH0, hN⟩ := C
  obtain ⟨hP, hD, hS, hl, hRE⟩ := hI
  obtain ⟨th, ef, se, C9, m9, c9, ta, tp, tq, ht9, hR⟩ := hRE
  have hbA : ¬ s.heap.size ≤ b := Nat.not_le.mpr hbl
  have hA : ∀ q : Nat, s.heap.size ≤ q → s.heap.size ≤ q := fun q h => h
  have hK := hX.1
  obtain ⟨oE, v, S, w, T, hC, hM, hdis⟩ := a_node (l := l) (dC := dC) (dI := dI) (A := A) (AB := AB) (cI := cI) (cQ := cQ) (cZ := cZ) hR hlt (xs (6 * n + 1)) (xs (6 * n + 2))
  obtain ⟨k, hk0, hfin, hkz⟩ := agr_k (by decide) hdis
  refine lv_aload_n hx hb dL_law_714 rfl (lv_at hl 1 rfl) ?_
  refine lv_aload_n hx hb dL_law_715 rfl (lv_at hl 0 rfl) ?_
  refine lv_iload hx hb dL_law_716 (lv_at hl 4 rfl) ?_
  refine lv_iconst (v := 1) hx hb dL_law_718 (by decide) ?_
  refine lv_iadd hx hb dL_law_719 ?_
  refine lv_topi (fun y0 ey0 => ?_)
  obtain rfl : y0 = nI (6 * n + 1) := ey0.trans (nI_add (6 * n) 1)
  refine va_sld hx hb hXs hbl hbA hS (vp_in_nI (show 6 * n + 1 < L by omega) (by omega)) dL_law_720 ?_
  rw [nI_clamp (show 6 * n + 1 < 2 ^ 31 by omega)]
  refine lv_aload_n hx hb dL_law_721 rfl (lv_at hl 0 rfl) ?_
  refine lv_iload hx hb dL_law_722 (lv_at hl 4 rfl) ?_
  refine lv_iconst (v := 2) hx hb dL_law_724 (by decide) ?_
  refine lv_iadd hx hb dL_law_725 ?_
  refine lv_topi (fun y1 ey1 => ?_)
  obtain rfl : y1 = nI (6 * n + 2) := ey1.trans (nI_add (6 * n) 2)
  refine va_sld hx hb hXs hbl hbA hS (vp_in_nI (show 6 * n + 2 < L by omega) (by omega)) dL_law_726 ?_
  rw [nI_clamp (show 6 * n + 2 < 2 ^ 31 by omega)]
  refine lv_aload_n hx hb dL_law_727 rfl (lv_at hl 3 rfl) ?_
  have hFa := fa_all hD hS hA
  have hPl := ap_P hP
  have hDl := ap_D hD
  have hFl := fa_all hDl hS hA
  have hHl : HX (va_A (LW A cI cQ cL σ o f) H.size) s H := (hH0.kept fun q h1 h2 => hS.2.1 q h1 h2).narrow hFl
  refine va_calli (vx_runSW (As := [.ref (A 0), .int (xs (6 * n + 1)), .int (xs (6 * n + 2)), .ref o]) (rest := []) ⟨hx, hb, hml, hown, hts⟩ (w_node l dC dI A cI cQ cL σ (xs (6 * n + 1)) (xs (6 * n + 2)) o f H.size hC hk0) (vx_cwSW 4 hts gL_law_L_node rfl rfl rfl (by decide +kernel) ⟨Nat.le_of_ble_eq_true rfl, Nat.le_of_ble_eq_true rfl⟩) ⟨bl_L, fun U hU hW => ⟨rfl, by rw [hU], by rw [hU]; exact hPl, hX.warm hW, va_K.moved hW.alike hKL, hf_any hDl, by rw [hU]; exact HX.moved hW.alike hHl, hN.moved hW.alike⟩⟩ rfl rfl hl.1 rfl (lv_room (Nat.le_of_ble_eq_true rfl)) dL_law_728 ⟨by show _ + 1 ≤ 613737; omega, by show _ + 6 ≤ 7254893; omega⟩) hS (fun q _ h => hFl q h) hFl (fun r u t H locs ht hvm hw hB hz1 hk1 hS => ?_)
  obtain ⟨σ1, f1⟩ := u
  obtain ⟨rfl, hSs, hout⟩ := hw
  obtain ⟨hP1, hD1⟩ := hB
  rw [ht] at hP1
  obtain ⟨hP, hD2⟩ := fr_L rfl hP hD hP1 hD1 hk1
  have hD := hD2.weaken (B := fun q => s.heap.size ≤ q) (fun _ q _ h => hFa q.1 h)
  clear hD2 hP1 hD1 hk1 hz1 hPl hDl hFl hFa hHl
  refine lv_istore (lv' := [(5, .int r), (0, .ref b), (1, .ref (A 0)), (2, .ref (AB 0)), (3, .ref o), (4, .int (nI (6 * n)))]) hx hb dL_law_731 hl (by decide) rfl (fun ls hl => ?_)
  refine lv_aload_n hx hb dL_law_733 rfl (lv_at hl 3 rfl) ?_
  refine lv_aload_n hx hb dL_law_734 rfl (lv_at hl 1 rfl) ?_
  refine lv_iload hx hb dL_law_735 (lv_at hl 5 rfl) ?_
  refine lv_iconst (v := 1) hx hb dL_law_737 (by decide) ?_
  refine lv_iadd hx hb dL_law_738 ?_
  refine lv_topi (fun y2 ey2 => ?_)
  obtain rfl : y2 = nI (6 * n + 1) := ey2.trans (nI_add (6 * n) 1)
  refine va_sld hx hb hXs hbl hbA hS (vp_in_nI (show 6 * n + 1 < L by omega) (by omega)) dL_law_739 ?_
  rw [nI_clamp (show 6 * n + 1 < 2 ^ 31 by omega)]
  refine lv_aload_n hx hb dL_law_740 rfl (lv_at hl 1 rfl) ?_
  refine lv_iload hx hb dL_law_741 (lv_at hl 5 rfl) ?_
  refine lv_iconst (v := 2) hx hb dL_law_743 (by decide) ?_
  refine lv_iadd hx hb dL_law_744 ?_
  refine lv_topi (fun y3 ey3 => ?_)
  obtain rfl : y3 = nI (6 * n + 2) := ey3.trans (nI_add (6 * n) 2)
  refine va_sld hx hb hXs hbl hbA hS (vp_in_nI (show 6 * n + 2 < L by omega) (by omega)) dL_law_745 ?_
  rw [nI_clamp (show 6 * n + 2 < 2 ^ 31 by omega)]
  obtain ⟨k, rfl⟩ : ∃ k, k = r := ⟨r, rfl⟩
  have hFa := fa_all hD hS hA
  have hPm := ap_PR hP
  have hDm := ap_DR hD
  have hFm := fa_all hDm hS hA
  refine va_calli (va_runV (As := [.int (xs (6 * n + 1)), .int (xs (6 * n + 2))]) (rest := []) ⟨hx, hb, hml, hown, hts⟩ (hM H.size) (cwV 2 hts gL_law_X4_node rfl rfl rfl (by decide +kernel) ⟨Nat.le_of_ble_eq_true rfl, Nat.le_of_ble_eq_true rfl⟩) ⟨bm_F, va_recv hKM hPm (ci := 4) (q0 := 0) rfl rfl, fun U hU hW => ⟨rfl, by rw [hU], by rw [hU]; exact hPm, va_K.moved hW.alike hKM, hf_any hDm⟩⟩ rfl rfl hl.1 rfl (lv_room (Nat.le_of_ble_eq_true rfl)) dL_law_746 ⟨by show _ + 0 ≤ 613737; omega, by show _ + 0 ≤ 7254893; omega⟩) hS (fun q _ h => hFm q h) hFm (fun r τ1 t H locs ht hvm hw hB hz1 hk1 hS => ?_)
  obtain ⟨rfl, hTt⟩ := hw
  obtain ⟨hP1, hD1⟩ := hB
  rw [ht] at hP1
  obtain ⟨hP, hD2⟩ := fr_R rfl hP hD hP1 hD1 hk1
  have hD := hD2.weaken (B := fun q => s.heap.size ≤ q) (fun _ q _ h => hFa q.1 h)
  clear hD2 hP1 hD1 hk1 hz1 hPm hDm hFm hFa
  refine lv_istore (lv' := [(6, .int r), (5, .int k), (0, .ref b), (1, .ref (A 0)), (2, .ref (AB 0)), (3, .ref o), (4, .int (nI (6 * n)))]) hx hb dL_law_749 hl (by decide) rfl (fun ls hl => ?_)
  refine lv_aload_n hx hb dL_law_751 rfl (lv_at hl 4 rfl) ?_
  have hPm := ap_PR hP
  refine vp_callSi (W.runV (As := []) (rest := []) ⟨hx, hb, hml, hown, hts⟩ (m_thrown l dC dI AB cI cZ τ1) (cwV 0 hts gL_law_X4_thrown rfl rfl rfl (by decide +kernel) ⟨Nat.le_of_ble_eq_true rfl, Nat.le_of_ble_eq_true rfl⟩) ⟨bm_P, va_recv hKM hPm (ci := 4) (q0 := 0) rfl rfl, fun U hU hW => ⟨rfl, by rw [hU]; exact hPm, va_K.moved hW.alike hKM⟩⟩ rfl rfl hl.1 rfl (lv_room (Nat.le_of_ble_eq_true rfl)) dL_law_752 ⟨by show _ + 0 ≤ 613737; omega, by show _ + 0 ≤ 7254893; omega⟩) (fun r2 er => ?_)
  obtain ⟨hthr, hRE⟩ := hfin _ _ hSs hTt
  have er : r2 = k := er.trans hthr
  clear hPm
  refine lv_iload hx hb dL_law_755 (lv_at hl 1 rfl) ?_
  refine lv_icmp_eq (tgt := 762) hx hb dL_law_757 (by decide) (fun c757_4 => ?_) (fun c757_4 => ?_)
  · skip
    refine lv_iload hx hb dL_law_762 (lv_at hl 1 rfl) ?_
    refine lv_if_ne (tgt := 779) hx hb dL_law_764 (by decide) (fun c764_5 => ?_) (fun c764_5 => ?_)
    · skip
      refine lv_goto (tgt := 1128) hx hb dL_law_779 (by decide) ?_
      exact ih _ _ _ _ _ _ ⟨hP, hD, hS, lv_sub hl [2, 3, 4, 5, 6] rfl, hRE⟩
    · skip
      refine lv_aload_n hx hb dL_law_767 rfl (lv_at hl 5 rfl) ?_
      refine lv_iconst (v := 0) hx hb dL_law_768 (by decide) ?_
      have hz0 : k = 0 := c764_5
      obtain ⟨hnone, hwv⟩ := hkz hz0
      have hout := hout hnone
      refine va_lald hx hb hKL hP 24 0 rfl rfl in01 dL_law_769 ?_
      refine lv_iload hx hb dL_law_770 (lv_at hl 0 rfl) ?_
      refine lv_i2l (v := r.toInt64) hx hb dL_law_772 rfl ?_
      refine lw_lcmp hx hb dL_law_773 (hout.trans (by rw [hwv])) ?_
      refine lv_if_eq (tgt := 779) hx hb dL_law_774 (by decide) (fun c774_6 => ?_) (fun c774_6 => ?_)
      · skip
        refine lv_goto (tgt := 1128) hx hb dL_law_779 (by decide) ?_
        exact ih _ _ _ _ _ _ ⟨hP, hD, hS, lv_sub hl [2, 3, 4, 5, 6] rfl, hRE⟩
      · exact absurd rfl c774_6
  · exact absurd er c757_4
set_option maxHeartbeats 4000000 in
set_option maxRecDepth 100000 in
/-- edit -/
theorem lc_edit {p : Program} {l : Launch} {e : Env} {s : State} {m : MethodId} {below : List Frame} {meth : Method} {c : Code} {b L : Nat} {xs : Nat → Int32} {dC : Nat → ClassId} {dI : Nat → Nat → Nat} {A AB : Nat → Nat} {cI cQ cZ cL : ClassId} {o n : Nat} {H : Heap} {locs : List Loc} {ls : Array Slot} {σ : HS} {τ : MS} {f : Nat → Int64} {Q : State → Prop} (C : LC p l s m meth c b L xs dC dI cI cQ cZ cL) (hn : 6 * n + 6 ≤ L) (hI : LI s b dC dI A AB cI cQ cZ cL o n H locs ls σ τ f)
    (ih : ∀ (H : Heap) (locs : List Loc) (ls : Array Slot) (σ : HS) (τ : MS) (f : Nat → Int64), LI s b dC dI A AB cI cQ cZ cL o n H locs ls σ τ f → W p l e room_1 s m #[Value.ref b] below meth c H locs (52 + n + 1) (1167 + 6 * n + 6) Q (F0 m 1128 ls [])) :
    W p l e room_1 s m #[Value.ref b] below meth c H locs (52 + n) (1167 + 6 * n) Q (F0 m 782 ls []) := by
  obtain ⟨hx, hb, hml, hown, hts, ⟨hXs, hbl, hL⟩, hlt, hX, hKM, hKL, hH0, hN⟩ := C
  obtain ⟨hP, hD, hS, hl, hRE⟩ := hI
  obtain ⟨th, ef, se, C9, m9, c9, ta, tp, tq, ht9, hR⟩ := hRE
  have hbA : ¬ s.heap.size ≤ b := Nat.not_le.mpr hbl
  have hA : ∀ q : Nat, s.heap.size ≤ q → s.heap.size ≤ q := fun q h => h
  have hK := hX.1
  obtain ⟨oE, v, S, w, T, hC, hM, hdis⟩ := a_edit (l := l) (dC := dC) (dI := dI) (A := A) (AB := AB) (cI := cI) (cQ := cQ) (cZ := cZ) hR hlt (xs (6 * n + 1)) (xs (6 * n + 2))
  obtain ⟨k, hk0, hfin, hkz⟩ := agr_k (by decide) hdis
  refine lv_aload_n hx hb dL_law_782 rfl (lv_at hl 1 rfl) ?_
  refine lv_aload_n hx hb dL_law_783 rfl (lv_at hl 0 rfl) ?_
  refine lv_iload hx hb dL_law_784 (lv_at hl 4 rfl) ?_
  refine lv_iconst (v := 1) hx hb dL_law_786 (by decide) ?_
  refine lv_iadd hx hb dL_law_787 ?_
  refine lv_topi (fun y0 ey0 => ?_)
  obtain rfl : y0 = nI (6 * n + 1) := ey0.trans (nI_add (6 * n) 1)
  refine va_sld hx hb hXs hbl hbA hS (vp_in_nI (show 6 * n + 1 < L by omega) (by omega)) dL_law_788 ?_
  rw [nI_clamp (show 6 * n + 1 < 2 ^ 31 by omega)]
  refine lv_aload_n hx hb dL_law_789 rfl (lv_at hl 0 rfl) ?_
  refine lv_iload hx hb dL_law_790 (lv_at hl 4 rfl) ?_
  refine lv_iconst (v := 2) hx hb dL_law_792 (by decide) ?_
  refine lv_iadd hx hb dL_law_793 ?_
  refine lv_topi (fun y1 ey1 => ?_)
  obtain rfl : y1 = nI (6 * n + 2) := ey1.trans (nI_add (6 * n) 2)
  refine va_sld hx hb hXs hbl hbA hS (vp_in_nI (show 6 * n + 2 < L by omega) (by omega)) dL_law_794 ?_
  rw [nI_clamp (show 6 * n + 2 < 2 ^ 31 by omega)]
  refine lv_aload_n hx hb dL_law_795 rfl (lv_at hl 3 rfl) ?_
  have hFa := fa_all hD hS hA
  have hPl := ap_P hP
  have hDl := ap_D hD
  have hFl := fa_all hDl hS hA
  have hHl : HX (va_A (LW A cI cQ cL σ o f) H.size) s H := (hH0.kept fun q h1 h2 => hS.2.1 q h1 h2).narrow hFl
  refine va_calli (vx_runSW (As := [.ref (A 0), .int (xs (6 * n + 1)), .int (xs (6 * n + 2)), .ref o]) (rest := []) ⟨hx, hb, hml, hown, hts⟩ (w_edit l dC dI A cI cQ cL σ (xs (6 * n + 1)) (xs (6 * n + 2)) o f H.size hC hk0) (vx_cwSW 4 hts gL_law_L_edit rfl rfl rfl (by decide +kernel) ⟨Nat.le_of_ble_eq_true rfl, Nat.le_of_ble_eq_true rfl⟩) ⟨bl_L, fun U hU hW => ⟨rfl, by rw [hU], by rw [hU]; exact hPl, hX.warm hW, va_K.moved hW.alike hKL, hf_any hDl, by rw [hU]; exact HX.moved hW.alike hHl, hN.moved hW.alike⟩⟩ rfl rfl hl.1 rfl (lv_room (Nat.le_of_ble_eq_true rfl)) dL_law_796 ⟨by show _ + 1 ≤ 613737; omega, by show _ + 6 ≤ 7254893; omega⟩) hS (fun q _ h => hFl q h) hFl (fun r u t H locs ht hvm hw hB hz1 hk1 hS => ?_)
  obtain ⟨σ1, f1⟩ := u
  obtain ⟨rfl, hSs, hout⟩ := hw
  obtain ⟨hP1, hD1⟩ := hB
  rw [ht] at hP1
  obtain ⟨hP, hD2⟩ := fr_L rfl hP hD hP1 hD1 hk1
  have hD := hD2.weaken (B := fun q => s.heap.size ≤ q) (fun _ q _ h => hFa q.1 h)
  clear hD2 hP1 hD1 hk1 hz1 hPl hDl hFl hFa hHl
  refine lv_istore (lv' := [(5, .int r), (0, .ref b), (1, .ref (A 0)), (2, .ref (AB 0)), (3, .ref o), (4, .int (nI (6 * n)))]) hx hb dL_law_799 hl (by decide) rfl (fun ls hl => ?_)
  refine lv_aload_n hx hb dL_law_801 rfl (lv_at hl 3 rfl) ?_
  refine lv_aload_n hx hb dL_law_802 rfl (lv_at hl 1 rfl) ?_
  refine lv_iload hx hb dL_law_803 (lv_at hl 5 rfl) ?_
  refine lv_iconst (v := 1) hx hb dL_law_805 (by decide) ?_
  refine lv_iadd hx hb dL_law_806 ?_
  refine lv_topi (fun y2 ey2 => ?_)
  obtain rfl : y2 = nI (6 * n + 1) := ey2.trans (nI_add (6 * n) 1)
  refine va_sld hx hb hXs hbl hbA hS (vp_in_nI (show 6 * n + 1 < L by omega) (by omega)) dL_law_807 ?_
  rw [nI_clamp (show 6 * n + 1 < 2 ^ 31 by omega)]
  refine lv_aload_n hx hb dL_law_808 rfl (lv_at hl 1 rfl) ?_
  refine lv_iload hx hb dL_law_809 (lv_at hl 5 rfl) ?_
  refine lv_iconst (v := 2) hx hb dL_law_811 (by decide) ?_
  refine lv_iadd hx hb dL_law_812 ?_
  refine lv_topi (fun y3 ey3 => ?_)
  obtain rfl : y3 = nI (6 * n + 2) := ey3.trans (nI_add (6 * n) 2)
  refine va_sld hx hb hXs hbl hbA hS (vp_in_nI (show 6 * n + 2 < L by omega) (by omega)) dL_law_813 ?_
  rw [nI_clamp (show 6 * n + 2 < 2 ^ 31 by omega)]
  obtain ⟨k, rfl⟩ : ∃ k, k = r := ⟨r, rfl⟩
  have hFa := fa_all hD hS hA
  have hPm := ap_PR hP
  have hDm := ap_DR hD
  have hFm := fa_all hDm hS hA
  refine va_calli (va_runV (As := [.int (xs (6 * n + 1)), .int (xs (6 * n + 2))]) (rest := []) ⟨hx, hb, hml, hown, hts⟩ (hM H.size) (cwV 2 hts gL_law_X4_edit rfl rfl rfl (by decide +kernel) ⟨Nat.le_of_ble_eq_true rfl, Nat.le_of_ble_eq_true rfl⟩) ⟨bm_F, va_recv hKM hPm (ci := 4) (q0 := 0) rfl rfl, fun U hU hW => ⟨rfl, by rw [hU], by rw [hU]; exact hPm, va_K.moved hW.alike hKM, hf_any hDm⟩⟩ rfl rfl hl.1 rfl (lv_room (Nat.le_of_ble_eq_true rfl)) dL_law_814 ⟨by show _ + 0 ≤ 613737; omega, by show _ + 0 ≤ 7254893; omega⟩) hS (fun q _ h => hFm q h) hFm (fun r τ1 t H locs ht hvm hw hB hz1 hk1 hS => ?_)
  obtain ⟨rfl, hTt⟩ := hw
  obtain ⟨hP1, hD1⟩ := hB
  rw [ht] at hP1
  obtain ⟨hP, hD2⟩ := fr_R rfl hP hD hP1 hD1 hk1
  have hD := hD2.weaken (B := fun q => s.heap.size ≤ q) (fun _ q _ h => hFa q.1 h)
  clear hD2 hP1 hD1 hk1 hz1 hPm hDm hFm hFa
  refine lv_istore (lv' := [(6, .int r), (5, .int k), (0, .ref b), (1, .ref (A 0)), (2, .ref (AB 0)), (3, .ref o), (4, .int (nI (6 * n)))]) hx hb dL_law_817 hl (by decide) rfl (fun ls hl => ?_)
  refine lv_aload_n hx hb dL_law_819 rfl (lv_at hl 4 rfl) ?_
  have hPm := ap_PR hP
  refine vp_callSi (W.runV (As := []) (rest := []) ⟨hx, hb, hml, hown, hts⟩ (m_thrown l dC dI AB cI cZ τ1) (cwV 0 hts gL_law_X4_thrown rfl rfl rfl (by decide +kernel) ⟨Nat.le_of_ble_eq_true rfl, Nat.le_of_ble_eq_true rfl⟩) ⟨bm_P, va_recv hKM hPm (ci := 4) (q0 := 0) rfl rfl, fun U hU hW => ⟨rfl, by rw [hU]; exact hPm, va_K.moved hW.alike hKM⟩⟩ rfl rfl hl.1 rfl (lv_room (Nat.le_of_ble_eq_true rfl)) dL_law_820 ⟨by show _ + 0 ≤ 613737; omega, by show _ + 0 ≤ 7254893; omega⟩) (fun r2 er => ?_)
  obtain ⟨hthr, hRE⟩ := hfin _ _ hSs hTt
  have er : r2 = k := er.trans hthr
  clear hPm
  refine lv_iload hx hb dL_law_823 (lv_at hl 1 rfl) ?_
  refine lv_icmp_eq (tgt := 830) hx hb dL_law_825 (by decide) (fun c825_4 => ?_) (fun c825_4 => ?_)
  · skip
    refine lv_iload hx hb dL_law_830 (lv_at hl 1 rfl) ?_
    refine lv_if_ne (tgt := 847) hx hb dL_law_832 (by decide) (fun c832_5 => ?_) (fun c832_5 => ?_)
    · skip
      refine lv_goto (tgt := 1128) hx hb dL_law_847 (by decide) ?_
      exact ih _ _ _ _ _ _ ⟨hP, hD, hS, lv_sub hl [2, 3, 4, 5, 6] rfl, hRE⟩
    · skip
      refine lv_aload_n hx hb dL_law_835 rfl (lv_at hl 5 rfl) ?_
      refine lv_iconst (v := 0) hx hb dL_law_836 (by decide) ?_
      have hz0 : k = 0 := c832_5
      obtain ⟨hnone, hwv⟩ := hkz hz0
      have hout := hout hnone
      refine va_lald hx hb hKL hP 24 0 rfl rfl in01 dL_law_837 ?_
      refine lv_iload hx hb dL_law_838 (lv_at hl 0 rfl) ?_
      refine lv_i2l (v := r.toInt64) hx hb dL_law_840 rfl ?_
      refine lw_lcmp hx hb dL_law_841 (hout.trans (by rw [hwv])) ?_
      refine lv_if_eq (tgt := 847) hx hb dL_law_842 (by decide) (fun c842_6 => ?_) (fun c842_6 => ?_)
      · skip
        refine lv_goto (tgt := 1128) hx hb dL_law_847 (by decide) ?_
        exact ih _ _ _ _ _ _ ⟨hP, hD, hS, lv_sub hl [2, 3, 4, 5, 6] rfl, hRE⟩
      · exact absurd rfl c842_6
  · exact absurd er c825_4
set_option maxHeartbeats 4000000 in
set_option maxRecDepth 100000 in
/-- right -/
theorem lc_right {p : Program} {l : Launch} {e : Env} {s : State} {m : MethodId} {below : List Frame} {meth : Method} {c : Code} {b L : Nat} {xs : Nat → Int32} {dC : Nat → ClassId} {dI : Nat → Nat → Nat} {A AB : Nat → Nat} {cI cQ cZ cL : ClassId} {o n : Nat} {H : Heap} {locs : List Loc} {ls : Array Slot} {σ : HS} {τ : MS} {f : Nat → Int64} {Q : State → Prop} (C : LC p l s m meth c b L xs dC dI cI cQ cZ cL) (hn : 6 * n + 6 ≤ L) (hI : LI s b dC dI A AB cI cQ cZ cL o n H locs ls σ τ f)
    (ih : ∀ (H : Heap) (locs : List Loc) (ls : Array Slot) (σ : HS) (τ : MS) (f : Nat → Int64), LI s b dC dI A AB cI cQ cZ cL o n H locs ls σ τ f → W p l e room_1 s m #[Value.ref b] below meth c H locs (52 + n + 1) (1167 + 6 * n + 6) Q (F0 m 1128 ls [])) :
    W p l e room_1 s m #[Value.ref b] below meth c H locs (52 + n) (1167 + 6 * n) Q (F0 m 850 ls []) := by
  obtain ⟨hx, hb, hml, hown, hts, ⟨hXs, hbl, hL⟩, hlt, hX, hKM, hKL, hH0, hN⟩ := C
  obtain ⟨hP, hD, hS, hl, hRE⟩ := hI
  obtain ⟨th, ef, se, C9, m9, c9, ta, tp, tq, ht9, hR⟩ := hRE
  have hbA : ¬ s.heap.size ≤ b := Nat.not_le.mpr hbl
  have hA : ∀ q : Nat, s.heap.size ≤ q → s.heap.size ≤ q := fun q h => h
  have hK := hX.1
  obtain ⟨oE, v, S, w, T, hC, hM, hdis⟩ := a_right (l := l) (dC := dC) (dI := dI) (A := A) (AB := AB) (cI := cI) (cQ := cQ) (cZ := cZ) hR hlt 
  obtain ⟨k, hk0, hfin, hkz⟩ := agr_k (by decide) hdis
  refine lv_aload_n hx hb dL_law_850 rfl (lv_at hl 1 rfl) ?_
  refine lv_aload_n hx hb dL_law_851 rfl (lv_at hl 3 rfl) ?_
  have hFa := fa_all hD hS hA
  have hPl := ap_P hP
  have hDl := ap_D hD
  have hFl := fa_all hDl hS hA
  have hHl : HX (va_A (LW A cI cQ cL σ o f) H.size) s H := (hH0.kept fun q h1 h2 => hS.2.1 q h1 h2).narrow hFl
  refine va_calli (vx_runSW (As := [.ref (A 0), .ref o]) (rest := []) ⟨hx, hb, hml, hown, hts⟩ (w_right l dC dI A cI cQ cL σ  o f H.size hC hk0) (vx_cwSW 2 hts gL_law_L_right rfl rfl rfl (by decide +kernel) ⟨Nat.le_of_ble_eq_true rfl, Nat.le_of_ble_eq_true rfl⟩) ⟨bl_L, fun U hU hW => ⟨rfl, by rw [hU], by rw [hU]; exact hPl, hX.warm hW, va_K.moved hW.alike hKL, hf_any hDl, by rw [hU]; exact HX.moved hW.alike hHl, hN.moved hW.alike⟩⟩ rfl rfl hl.1 rfl (lv_room (Nat.le_of_ble_eq_true rfl)) dL_law_852 ⟨by show _ + 1 ≤ 613737; omega, by show _ + 6 ≤ 7254893; omega⟩) hS (fun q _ h => hFl q h) hFl (fun r u t H locs ht hvm hw hB hz1 hk1 hS => ?_)
  obtain ⟨σ1, f1⟩ := u
  obtain ⟨rfl, hSs, hout⟩ := hw
  obtain ⟨hP1, hD1⟩ := hB
  rw [ht] at hP1
  obtain ⟨hP, hD2⟩ := fr_L rfl hP hD hP1 hD1 hk1
  have hD := hD2.weaken (B := fun q => s.heap.size ≤ q) (fun _ q _ h => hFa q.1 h)
  clear hD2 hP1 hD1 hk1 hz1 hPl hDl hFl hFa hHl
  refine lv_istore (lv' := [(5, .int r), (0, .ref b), (1, .ref (A 0)), (2, .ref (AB 0)), (3, .ref o), (4, .int (nI (6 * n)))]) hx hb dL_law_855 hl (by decide) rfl (fun ls hl => ?_)
  refine lv_aload_n hx hb dL_law_857 rfl (lv_at hl 3 rfl) ?_
  obtain ⟨k, rfl⟩ : ∃ k, k = r := ⟨r, rfl⟩
  have hFa := fa_all hD hS hA
  have hPm := ap_PR hP
  have hDm := ap_DR hD
  have hFm := fa_all hDm hS hA
  refine va_calli (va_runV (As := []) (rest := []) ⟨hx, hb, hml, hown, hts⟩ (hM H.size) (cwV 0 hts gL_law_X4_right rfl rfl rfl (by decide +kernel) ⟨Nat.le_of_ble_eq_true rfl, Nat.le_of_ble_eq_true rfl⟩) ⟨bm_F, va_recv hKM hPm (ci := 4) (q0 := 0) rfl rfl, fun U hU hW => ⟨rfl, by rw [hU], by rw [hU]; exact hPm, va_K.moved hW.alike hKM, hf_any hDm⟩⟩ rfl rfl hl.1 rfl (lv_room (Nat.le_of_ble_eq_true rfl)) dL_law_858 ⟨by show _ + 0 ≤ 613737; omega, by show _ + 0 ≤ 7254893; omega⟩) hS (fun q _ h => hFm q h) hFm (fun r τ1 t H locs ht hvm hw hB hz1 hk1 hS => ?_)
  obtain ⟨rfl, hTt⟩ := hw
  obtain ⟨hP1, hD1⟩ := hB
  rw [ht] at hP1
  obtain ⟨hP, hD2⟩ := fr_R rfl hP hD hP1 hD1 hk1
  have hD := hD2.weaken (B := fun q => s.heap.size ≤ q) (fun _ q _ h => hFa q.1 h)
  clear hD2 hP1 hD1 hk1 hz1 hPm hDm hFm hFa
  refine lv_istore (lv' := [(6, .int r), (5, .int k), (0, .ref b), (1, .ref (A 0)), (2, .ref (AB 0)), (3, .ref o), (4, .int (nI (6 * n)))]) hx hb dL_law_861 hl (by decide) rfl (fun ls hl => ?_)
  refine lv_aload_n hx hb dL_law_863 rfl (lv_at hl 4 rfl) ?_
  have hPm := ap_PR hP
  refine vp_callSi (W.runV (As := []) (rest := []) ⟨hx, hb, hml, hown, hts⟩ (m_thrown l dC dI AB cI cZ τ1) (cwV 0 hts gL_law_X4_thrown rfl rfl rfl (by decide +kernel) ⟨Nat.le_of_ble_eq_true rfl, Nat.le_of_ble_eq_true rfl⟩) ⟨bm_P, va_recv hKM hPm (ci := 4) (q0 := 0) rfl rfl, fun U hU hW => ⟨rfl, by rw [hU]; exact hPm, va_K.moved hW.alike hKM⟩⟩ rfl rfl hl.1 rfl (lv_room (Nat.le_of_ble_eq_true rfl)) dL_law_864 ⟨by show _ + 0 ≤ 613737; omega, by show _ + 0 ≤ 7254893; omega⟩) (fun r2 er => ?_)
  obtain ⟨hthr, hRE⟩ := hfin _ _ hSs hTt
  have er : r2 = k := er.trans hthr
  clear hPm
  refine lv_iload hx hb dL_law_867 (lv_at hl 1 rfl) ?_
  refine lv_icmp_eq (tgt := 874) hx hb dL_law_869 (by decide) (fun c869_0 => ?_) (fun c869_0 => ?_)
  · skip
    refine lv_iload hx hb dL_law_874 (lv_at hl 1 rfl) ?_
    refine lv_if_ne (tgt := 898) hx hb dL_law_876 (by decide) (fun c876_1 => ?_) (fun c876_1 => ?_)
    · skip
      refine lv_goto (tgt := 1128) hx hb dL_law_898 (by decide) ?_
      exact ih _ _ _ _ _ _ ⟨hP, hD, hS, lv_sub hl [2, 3, 4, 5, 6] rfl, hRE⟩
    · skip
      refine lv_aload_n hx hb dL_law_879 rfl (lv_at hl 5 rfl) ?_
      refine lv_iconst (v := 0) hx hb dL_law_880 (by decide) ?_
      have hz0 : k = 0 := c876_1
      obtain ⟨hnone, hwv⟩ := hkz hz0
      have hout := hout hnone
      refine va_lald hx hb hKL hP 24 0 rfl rfl in01 dL_law_881 ?_
      refine lv_iload hx hb dL_law_882 (lv_at hl 0 rfl) ?_
      refine lv_if_eq (tgt := 891) hx hb dL_law_884 (by decide) (fun c884_2 => ?_) (fun c884_2 => ?_)
      · skip
        refine lv_lconst (v := 0) hx hb dL_law_891 rfl ?_
        refine lw_lcmp hx hb dL_law_892 (hout.trans (by unfold lb; rw [← hwv, if_pos c884_2])) ?_
        refine lv_if_eq (tgt := 898) hx hb dL_law_893 (by decide) (fun c893_3 => ?_) (fun c893_3 => ?_)
        · skip
          refine lv_goto (tgt := 1128) hx hb dL_law_898 (by decide) ?_
          exact ih _ _ _ _ _ _ ⟨hP, hD, hS, lv_sub hl [2, 3, 4, 5, 6] rfl, hRE⟩
        · exact absurd rfl c893_3
      · skip
        refine lv_lconst (v := 1) hx hb dL_law_887 rfl ?_
        refine lv_goto (tgt := 892) hx hb dL_law_888 (by decide) ?_
        refine lw_lcmp hx hb dL_law_892 (hout.trans (by unfold lb; rw [← hwv, if_neg c884_2])) ?_
        refine lv_if_eq (tgt := 898) hx hb dL_law_893 (by decide) (fun c893_4 => ?_) (fun c893_4 => ?_)
        · skip
          refine lv_goto (tgt := 1128) hx hb dL_law_898 (by decide) ?_
          exact ih _ _ _ _ _ _ ⟨hP, hD, hS, lv_sub hl [2, 3, 4, 5, 6] rfl, hRE⟩
        · exact absurd rfl c893_4
  · exact absurd er c869_0
set_option maxHeartbeats 4000000 in
set_option maxRecDepth 100000 in
/-- hide -/
theorem lc_hide {p : Program} {l : Launch} {e : Env} {s : State} {m : MethodId} {below : List Frame} {meth : Method} {c : Code} {b L : Nat} {xs : Nat → Int32} {dC : Nat → ClassId} {dI : Nat → Nat → Nat} {A AB : Nat → Nat} {cI cQ cZ cL : ClassId} {o n : Nat} {H : Heap} {locs : List Loc} {ls : Array Slot} {σ : HS} {τ : MS} {f : Nat → Int64} {Q : State → Prop} (C : LC p l s m meth c b L xs dC dI cI cQ cZ cL) (hn : 6 * n + 6 ≤ L) (hI : LI s b dC dI A AB cI cQ cZ cL o n H locs ls σ τ f)
    (ih : ∀ (H : Heap) (locs : List Loc) (ls : Array Slot) (σ : HS) (τ : MS) (f : Nat → Int64), LI s b dC dI A AB cI cQ cZ cL o n H locs ls σ τ f → W p l e room_1 s m #[Value.ref b] below meth c H locs (52 + n + 1) (1167 + 6 * n + 6) Q (F0 m 1128 ls [])) :
    W p l e room_1 s m #[Value.ref b] below meth c H locs (52 + n) (1167 + 6 * n) Q (F0 m 901 ls []) := by
  obtain ⟨hx, hb, hml, hown, hts, ⟨hXs, hbl, hL⟩, hlt, hX, hKM, hKL, hH0, hN⟩ := C
  obtain ⟨hP, hD, hS, hl, hRE⟩ := hI
  obtain ⟨th, ef, se, C9, m9, c9, ta, tp, tq, ht9, hR⟩ := hRE
  have hbA : ¬ s.heap.size ≤ b := Nat.not_le.mpr hbl
  have hA : ∀ q : Nat, s.heap.size ≤ q → s.heap.size ≤ q := fun q h => h
  have hK := hX.1
  obtain ⟨oE, v, S, w, T, hC, hM, hdis⟩ := a_hide (l := l) (dC := dC) (dI := dI) (A := A) (AB := AB) (cI := cI) (cQ := cQ) (cZ := cZ) hR hlt (xs (6 * n + 1))
  obtain ⟨k, hk0, hfin, hkz⟩ := agr_k (by decide) hdis
  refine lv_aload_n hx hb dL_law_901 rfl (lv_at hl 1 rfl) ?_
  refine lv_aload_n hx hb dL_law_902 rfl (lv_at hl 0 rfl) ?_
  refine lv_iload hx hb dL_law_903 (lv_at hl 4 rfl) ?_
  refine lv_iconst (v := 1) hx hb dL_law_905 (by decide) ?_
  refine lv_iadd hx hb dL_law_906 ?_
  refine lv_topi (fun y0 ey0 => ?_)
  obtain rfl : y0 = nI (6 * n + 1) := ey0.trans (nI_add (6 * n) 1)
  refine va_sld hx hb hXs hbl hbA hS (vp_in_nI (show 6 * n + 1 < L by omega) (by omega)) dL_law_907 ?_
  rw [nI_clamp (show 6 * n + 1 < 2 ^ 31 by omega)]
  refine lv_aload_n hx hb dL_law_908 rfl (lv_at hl 3 rfl) ?_
  have hFa := fa_all hD hS hA
  have hPl := ap_P hP
  have hDl := ap_D hD
  have hFl := fa_all hDl hS hA
  have hHl : HX (va_A (LW A cI cQ cL σ o f) H.size) s H := (hH0.kept fun q h1 h2 => hS.2.1 q h1 h2).narrow hFl
  refine va_calli (vx_runSW (As := [.ref (A 0), .int (xs (6 * n + 1)), .ref o]) (rest := []) ⟨hx, hb, hml, hown, hts⟩ (w_hide l dC dI A cI cQ cL σ (xs (6 * n + 1)) o f H.size hC hk0) (vx_cwSW 3 hts gL_law_L_hide rfl rfl rfl (by decide +kernel) ⟨Nat.le_of_ble_eq_true rfl, Nat.le_of_ble_eq_true rfl⟩) ⟨bl_L, fun U hU hW => ⟨rfl, by rw [hU], by rw [hU]; exact hPl, hX.warm hW, va_K.moved hW.alike hKL, hf_any hDl, by rw [hU]; exact HX.moved hW.alike hHl, hN.moved hW.alike⟩⟩ rfl rfl hl.1 rfl (lv_room (Nat.le_of_ble_eq_true rfl)) dL_law_909 ⟨by show _ + 1 ≤ 613737; omega, by show _ + 6 ≤ 7254893; omega⟩) hS (fun q _ h => hFl q h) hFl (fun r u t H locs ht hvm hw hB hz1 hk1 hS => ?_)
  obtain ⟨σ1, f1⟩ := u
  obtain ⟨rfl, hSs, hout⟩ := hw
  obtain ⟨hP1, hD1⟩ := hB
  rw [ht] at hP1
  obtain ⟨hP, hD2⟩ := fr_L rfl hP hD hP1 hD1 hk1
  have hD := hD2.weaken (B := fun q => s.heap.size ≤ q) (fun _ q _ h => hFa q.1 h)
  clear hD2 hP1 hD1 hk1 hz1 hPl hDl hFl hFa hHl
  refine lv_istore (lv' := [(5, .int r), (0, .ref b), (1, .ref (A 0)), (2, .ref (AB 0)), (3, .ref o), (4, .int (nI (6 * n)))]) hx hb dL_law_912 hl (by decide) rfl (fun ls hl => ?_)
  refine lv_aload_n hx hb dL_law_914 rfl (lv_at hl 3 rfl) ?_
  refine lv_aload_n hx hb dL_law_915 rfl (lv_at hl 1 rfl) ?_
  refine lv_iload hx hb dL_law_916 (lv_at hl 5 rfl) ?_
  refine lv_iconst (v := 1) hx hb dL_law_918 (by decide) ?_
  refine lv_iadd hx hb dL_law_919 ?_
  refine lv_topi (fun y1 ey1 => ?_)
  obtain rfl : y1 = nI (6 * n + 1) := ey1.trans (nI_add (6 * n) 1)
  refine va_sld hx hb hXs hbl hbA hS (vp_in_nI (show 6 * n + 1 < L by omega) (by omega)) dL_law_920 ?_
  rw [nI_clamp (show 6 * n + 1 < 2 ^ 31 by omega)]
  obtain ⟨k, rfl⟩ : ∃ k, k = r := ⟨r, rfl⟩
  have hFa := fa_all hD hS hA
  have hPm := ap_PR hP
  have hDm := ap_DR hD
  have hFm := fa_all hDm hS hA
  refine va_calli (va_runV (As := [.int (xs (6 * n + 1))]) (rest := []) ⟨hx, hb, hml, hown, hts⟩ (hM H.size) (cwV 1 hts gL_law_X4_hide rfl rfl rfl (by decide +kernel) ⟨Nat.le_of_ble_eq_true rfl, Nat.le_of_ble_eq_true rfl⟩) ⟨bm_F, va_recv hKM hPm (ci := 4) (q0 := 0) rfl rfl, fun U hU hW => ⟨rfl, by rw [hU], by rw [hU]; exact hPm, va_K.moved hW.alike hKM, hf_any hDm⟩⟩ rfl rfl hl.1 rfl (lv_room (Nat.le_of_ble_eq_true rfl)) dL_law_921 ⟨by show _ + 0 ≤ 613737; omega, by show _ + 0 ≤ 7254893; omega⟩) hS (fun q _ h => hFm q h) hFm (fun r τ1 t H locs ht hvm hw hB hz1 hk1 hS => ?_)
  obtain ⟨rfl, hTt⟩ := hw
  obtain ⟨hP1, hD1⟩ := hB
  rw [ht] at hP1
  obtain ⟨hP, hD2⟩ := fr_R rfl hP hD hP1 hD1 hk1
  have hD := hD2.weaken (B := fun q => s.heap.size ≤ q) (fun _ q _ h => hFa q.1 h)
  clear hD2 hP1 hD1 hk1 hz1 hPm hDm hFm hFa
  refine lv_istore (lv' := [(6, .int r), (5, .int k), (0, .ref b), (1, .ref (A 0)), (2, .ref (AB 0)), (3, .ref o), (4, .int (nI (6 * n)))]) hx hb dL_law_924 hl (by decide) rfl (fun ls hl => ?_)
  refine lv_aload_n hx hb dL_law_926 rfl (lv_at hl 4 rfl) ?_
  have hPm := ap_PR hP
  refine vp_callSi (W.runV (As := []) (rest := []) ⟨hx, hb, hml, hown, hts⟩ (m_thrown l dC dI AB cI cZ τ1) (cwV 0 hts gL_law_X4_thrown rfl rfl rfl (by decide +kernel) ⟨Nat.le_of_ble_eq_true rfl, Nat.le_of_ble_eq_true rfl⟩) ⟨bm_P, va_recv hKM hPm (ci := 4) (q0 := 0) rfl rfl, fun U hU hW => ⟨rfl, by rw [hU]; exact hPm, va_K.moved hW.alike hKM⟩⟩ rfl rfl hl.1 rfl (lv_room (Nat.le_of_ble_eq_true rfl)) dL_law_927 ⟨by show _ + 0 ≤ 613737; omega, by show _ + 0 ≤ 7254893; omega⟩) (fun r2 er => ?_)
  obtain ⟨hthr, hRE⟩ := hfin _ _ hSs hTt
  have er : r2 = k := er.trans hthr
  clear hPm
  refine lv_iload hx hb dL_law_930 (lv_at hl 1 rfl) ?_
  refine lv_icmp_eq (tgt := 937) hx hb dL_law_932 (by decide) (fun c932_2 => ?_) (fun c932_2 => ?_)
  · skip
    refine lv_iload hx hb dL_law_937 (lv_at hl 1 rfl) ?_
    refine lv_if_ne (tgt := 961) hx hb dL_law_939 (by decide) (fun c939_3 => ?_) (fun c939_3 => ?_)
    · skip
      refine lv_goto (tgt := 1128) hx hb dL_law_961 (by decide) ?_
      exact ih _ _ _ _ _ _ ⟨hP, hD, hS, lv_sub hl [2, 3, 4, 5, 6] rfl, hRE⟩
    · skip
      refine lv_aload_n hx hb dL_law_942 rfl (lv_at hl 5 rfl) ?_
      refine lv_iconst (v := 0) hx hb dL_law_943 (by decide) ?_
      have hz0 : k = 0 := c939_3
      obtain ⟨hnone, hwv⟩ := hkz hz0
      have hout := hout hnone
      refine va_lald hx hb hKL hP 24 0 rfl rfl in01 dL_law_944 ?_
      refine lv_iload hx hb dL_law_945 (lv_at hl 0 rfl) ?_
      refine lv_if_eq (tgt := 954) hx hb dL_law_947 (by decide) (fun c947_4 => ?_) (fun c947_4 => ?_)
      · skip
        refine lv_lconst (v := 0) hx hb dL_law_954 rfl ?_
        refine lw_lcmp hx hb dL_law_955 (hout.trans (by unfold lb; rw [← hwv, if_pos c947_4])) ?_
        refine lv_if_eq (tgt := 961) hx hb dL_law_956 (by decide) (fun c956_5 => ?_) (fun c956_5 => ?_)
        · skip
          refine lv_goto (tgt := 1128) hx hb dL_law_961 (by decide) ?_
          exact ih _ _ _ _ _ _ ⟨hP, hD, hS, lv_sub hl [2, 3, 4, 5, 6] rfl, hRE⟩
        · exact absurd rfl c956_5
      · skip
        refine lv_lconst (v := 1) hx hb dL_law_950 rfl ?_
        refine lv_goto (tgt := 955) hx hb dL_law_951 (by decide) ?_
        refine lw_lcmp hx hb dL_law_955 (hout.trans (by unfold lb; rw [← hwv, if_neg c947_4])) ?_
        refine lv_if_eq (tgt := 961) hx hb dL_law_956 (by decide) (fun c956_6 => ?_) (fun c956_6 => ?_)
        · skip
          refine lv_goto (tgt := 1128) hx hb dL_law_961 (by decide) ?_
          exact ih _ _ _ _ _ _ ⟨hP, hD, hS, lv_sub hl [2, 3, 4, 5, 6] rfl, hRE⟩
        · exact absurd rfl c956_6
  · exact absurd er c932_2
set_option maxHeartbeats 4000000 in
set_option maxRecDepth 100000 in
/-- execute -/
theorem lc_execute {p : Program} {l : Launch} {e : Env} {s : State} {m : MethodId} {below : List Frame} {meth : Method} {c : Code} {b L : Nat} {xs : Nat → Int32} {dC : Nat → ClassId} {dI : Nat → Nat → Nat} {A AB : Nat → Nat} {cI cQ cZ cL : ClassId} {o n : Nat} {H : Heap} {locs : List Loc} {ls : Array Slot} {σ : HS} {τ : MS} {f : Nat → Int64} {Q : State → Prop} (C : LC p l s m meth c b L xs dC dI cI cQ cZ cL) (hn : 6 * n + 6 ≤ L) (hI : LI s b dC dI A AB cI cQ cZ cL o n H locs ls σ τ f)
    (ih : ∀ (H : Heap) (locs : List Loc) (ls : Array Slot) (σ : HS) (τ : MS) (f : Nat → Int64), LI s b dC dI A AB cI cQ cZ cL o n H locs ls σ τ f → W p l e room_1 s m #[Value.ref b] below meth c H locs (52 + n + 1) (1167 + 6 * n + 6) Q (F0 m 1128 ls [])) :
    W p l e room_1 s m #[Value.ref b] below meth c H locs (52 + n) (1167 + 6 * n) Q (F0 m 964 ls []) := by
  obtain ⟨hx, hb, hml, hown, hts, ⟨hXs, hbl, hL⟩, hlt, hX, hKM, hKL, hH0, hN⟩ := C
  obtain ⟨hP, hD, hS, hl, hRE⟩ := hI
  obtain ⟨th, ef, se, C9, m9, c9, ta, tp, tq, ht9, hR⟩ := hRE
  have hbA : ¬ s.heap.size ≤ b := Nat.not_le.mpr hbl
  have hA : ∀ q : Nat, s.heap.size ≤ q → s.heap.size ≤ q := fun q h => h
  have hK := hX.1
  obtain ⟨oE, v, S, w, T, hC, hM, hdis⟩ := a_execute (l := l) (dC := dC) (dI := dI) (A := A) (AB := AB) (cI := cI) (cQ := cQ) (cZ := cZ) hR hlt 
  obtain ⟨k, hk0, hfin, hkz⟩ := agr_k (by decide) hdis
  refine lv_aload_n hx hb dL_law_964 rfl (lv_at hl 1 rfl) ?_
  refine lv_aload_n hx hb dL_law_965 rfl (lv_at hl 3 rfl) ?_
  have hFa := fa_all hD hS hA
  have hPl := ap_P hP
  have hDl := ap_D hD
  have hFl := fa_all hDl hS hA
  have hHl : HX (va_A (LW A cI cQ cL σ o f) H.size) s H := (hH0.kept fun q h1 h2 => hS.2.1 q h1 h2).narrow hFl
  refine va_calli (vx_runSW (As := [.ref (A 0), .ref o]) (rest := []) ⟨hx, hb, hml, hown, hts⟩ (w_execute l dC dI A cI cQ cL σ  o f H.size hC hk0) (vx_cwSW 2 hts gL_law_L_execute rfl rfl rfl (by decide +kernel) ⟨Nat.le_of_ble_eq_true rfl, Nat.le_of_ble_eq_true rfl⟩) ⟨bl_L, fun U hU hW => ⟨rfl, by rw [hU], by rw [hU]; exact hPl, hX.warm hW, va_K.moved hW.alike hKL, hf_any hDl, by rw [hU]; exact HX.moved hW.alike hHl, hN.moved hW.alike⟩⟩ rfl rfl hl.1 rfl (lv_room (Nat.le_of_ble_eq_true rfl)) dL_law_966 ⟨by show _ + 1 ≤ 613737; omega, by show _ + 6 ≤ 7254893; omega⟩) hS (fun q _ h => hFl q h) hFl (fun r u t H locs ht hvm hw hB hz1 hk1 hS => ?_)
  obtain ⟨σ1, f1⟩ := u
  obtain ⟨rfl, hSs, hout⟩ := hw
  obtain ⟨hP1, hD1⟩ := hB
  rw [ht] at hP1
  obtain ⟨hP, hD2⟩ := fr_L rfl hP hD hP1 hD1 hk1
  have hD := hD2.weaken (B := fun q => s.heap.size ≤ q) (fun _ q _ h => hFa q.1 h)
  clear hD2 hP1 hD1 hk1 hz1 hPl hDl hFl hFa hHl
  refine lv_istore (lv' := [(5, .int r), (0, .ref b), (1, .ref (A 0)), (2, .ref (AB 0)), (3, .ref o), (4, .int (nI (6 * n)))]) hx hb dL_law_969 hl (by decide) rfl (fun ls hl => ?_)
  refine lv_aload_n hx hb dL_law_971 rfl (lv_at hl 3 rfl) ?_
  obtain ⟨k, rfl⟩ : ∃ k, k = r := ⟨r, rfl⟩
  have hFa := fa_all hD hS hA
  have hPm := ap_PR hP
  have hDm := ap_DR hD
  have hFm := fa_all hDm hS hA
  refine va_calli (va_runV (As := []) (rest := []) ⟨hx, hb, hml, hown, hts⟩ (hM H.size) (cwV 0 hts gL_law_X4_execute rfl rfl rfl (by decide +kernel) ⟨Nat.le_of_ble_eq_true rfl, Nat.le_of_ble_eq_true rfl⟩) ⟨bm_F, va_recv hKM hPm (ci := 4) (q0 := 0) rfl rfl, fun U hU hW => ⟨rfl, by rw [hU], by rw [hU]; exact hPm, va_K.moved hW.alike hKM, hf_any hDm⟩⟩ rfl rfl hl.1 rfl (lv_room (Nat.le_of_ble_eq_true rfl)) dL_law_972 ⟨by show _ + 0 ≤ 613737; omega, by show _ + 0 ≤ 7254893; omega⟩) hS (fun q _ h => hFm q h) hFm (fun r τ1 t H locs ht hvm hw hB hz1 hk1 hS => ?_)
  obtain ⟨rfl, hTt⟩ := hw
  obtain ⟨hP1, hD1⟩ := hB
  rw [ht] at hP1
  obtain ⟨hP, hD2⟩ := fr_R rfl hP hD hP1 hD1 hk1
  have hD := hD2.weaken (B := fun q => s.heap.size ≤ q) (fun _ q _ h => hFa q.1 h)
  clear hD2 hP1 hD1 hk1 hz1 hPm hDm hFm hFa
  refine lv_istore (lv' := [(6, .int r), (5, .int k), (0, .ref b), (1, .ref (A 0)), (2, .ref (AB 0)), (3, .ref o), (4, .int (nI (6 * n)))]) hx hb dL_law_975 hl (by decide) rfl (fun ls hl => ?_)
  refine lv_aload_n hx hb dL_law_977 rfl (lv_at hl 4 rfl) ?_
  have hPm := ap_PR hP
  refine vp_callSi (W.runV (As := []) (rest := []) ⟨hx, hb, hml, hown, hts⟩ (m_thrown l dC dI AB cI cZ τ1) (cwV 0 hts gL_law_X4_thrown rfl rfl rfl (by decide +kernel) ⟨Nat.le_of_ble_eq_true rfl, Nat.le_of_ble_eq_true rfl⟩) ⟨bm_P, va_recv hKM hPm (ci := 4) (q0 := 0) rfl rfl, fun U hU hW => ⟨rfl, by rw [hU]; exact hPm, va_K.moved hW.alike hKM⟩⟩ rfl rfl hl.1 rfl (lv_room (Nat.le_of_ble_eq_true rfl)) dL_law_978 ⟨by show _ + 0 ≤ 613737; omega, by show _ + 0 ≤ 7254893; omega⟩) (fun r2 er => ?_)
  obtain ⟨hthr, hRE⟩ := hfin _ _ hSs hTt
  have er : r2 = k := er.trans hthr
  clear hPm
  refine lv_iload hx hb dL_law_981 (lv_at hl 1 rfl) ?_
  refine lv_icmp_eq (tgt := 988) hx hb dL_law_983 (by decide) (fun c983_0 => ?_) (fun c983_0 => ?_)
  · skip
    refine lv_iload hx hb dL_law_988 (lv_at hl 1 rfl) ?_
    refine lv_if_ne (tgt := 1012) hx hb dL_law_990 (by decide) (fun c990_1 => ?_) (fun c990_1 => ?_)
    · skip
      refine lv_goto (tgt := 1128) hx hb dL_law_1012 (by decide) ?_
      exact ih _ _ _ _ _ _ ⟨hP, hD, hS, lv_sub hl [2, 3, 4, 5, 6] rfl, hRE⟩
    · skip
      refine lv_aload_n hx hb dL_law_993 rfl (lv_at hl 5 rfl) ?_
      refine lv_iconst (v := 0) hx hb dL_law_994 (by decide) ?_
      have hz0 : k = 0 := c990_1
      obtain ⟨hnone, hwv⟩ := hkz hz0
      have hout := hout hnone
      refine va_lald hx hb hKL hP 24 0 rfl rfl in01 dL_law_995 ?_
      refine lv_iload hx hb dL_law_996 (lv_at hl 0 rfl) ?_
      refine lv_if_eq (tgt := 1005) hx hb dL_law_998 (by decide) (fun c998_2 => ?_) (fun c998_2 => ?_)
      · skip
        refine lv_lconst (v := 0) hx hb dL_law_1005 rfl ?_
        refine lw_lcmp hx hb dL_law_1006 (hout.trans (by unfold lb; rw [← hwv, if_pos c998_2])) ?_
        refine lv_if_eq (tgt := 1012) hx hb dL_law_1007 (by decide) (fun c1007_3 => ?_) (fun c1007_3 => ?_)
        · skip
          refine lv_goto (tgt := 1128) hx hb dL_law_1012 (by decide) ?_
          exact ih _ _ _ _ _ _ ⟨hP, hD, hS, lv_sub hl [2, 3, 4, 5, 6] rfl, hRE⟩
        · exact absurd rfl c1007_3
      · skip
        refine lv_lconst (v := 1) hx hb dL_law_1001 rfl ?_
        refine lv_goto (tgt := 1006) hx hb dL_law_1002 (by decide) ?_
        refine lw_lcmp hx hb dL_law_1006 (hout.trans (by unfold lb; rw [← hwv, if_neg c998_2])) ?_
        refine lv_if_eq (tgt := 1012) hx hb dL_law_1007 (by decide) (fun c1007_4 => ?_) (fun c1007_4 => ?_)
        · skip
          refine lv_goto (tgt := 1128) hx hb dL_law_1012 (by decide) ?_
          exact ih _ _ _ _ _ _ ⟨hP, hD, hS, lv_sub hl [2, 3, 4, 5, 6] rfl, hRE⟩
        · exact absurd rfl c1007_4
  · exact absurd er c983_0
set_option maxHeartbeats 4000000 in
set_option maxRecDepth 100000 in
/-- made -/
theorem lc_made {p : Program} {l : Launch} {e : Env} {s : State} {m : MethodId} {below : List Frame} {meth : Method} {c : Code} {b L : Nat} {xs : Nat → Int32} {dC : Nat → ClassId} {dI : Nat → Nat → Nat} {A AB : Nat → Nat} {cI cQ cZ cL : ClassId} {o n : Nat} {H : Heap} {locs : List Loc} {ls : Array Slot} {σ : HS} {τ : MS} {f : Nat → Int64} {Q : State → Prop} (C : LC p l s m meth c b L xs dC dI cI cQ cZ cL) (hn : 6 * n + 6 ≤ L) (hI : LI s b dC dI A AB cI cQ cZ cL o n H locs ls σ τ f)
    (ih : ∀ (H : Heap) (locs : List Loc) (ls : Array Slot) (σ : HS) (τ : MS) (f : Nat → Int64), LI s b dC dI A AB cI cQ cZ cL o n H locs ls σ τ f → W p l e room_1 s m #[Value.ref b] below meth c H locs (52 + n + 1) (1167 + 6 * n + 6) Q (F0 m 1128 ls [])) :
    W p l e room_1 s m #[Value.ref b] below meth c H locs (52 + n) (1167 + 6 * n) Q (F0 m 1015 ls []) := by
  obtain ⟨hx, hb, hml, hown, hts, ⟨hXs, hbl, hL⟩, hlt, hX, hKM, hKL, hH0, hN⟩ := C
  obtain ⟨hP, hD, hS, hl, hRE⟩ := hI
  obtain ⟨th, ef, se, C9, m9, c9, ta, tp, tq, ht9, hR⟩ := hRE
  have hbA : ¬ s.heap.size ≤ b := Nat.not_le.mpr hbl
  have hA : ∀ q : Nat, s.heap.size ≤ q → s.heap.size ≤ q := fun q h => h
  have hK := hX.1
  obtain ⟨v, S, T, hC, hM, hfin⟩ := a_made (l := l) (dC := dC) (dI := dI) (A := A) (AB := AB) (cI := cI) (cQ := cQ) (cZ := cZ) hR
  refine lv_aload_n hx hb dL_law_1015 rfl (lv_at hl 1 rfl) ?_
  have hP9 : va_P (dC, dI) vwCl (hfW A cI cQ σ ++ ([(o, .inl (cL, 1, .inr (.inl f)))] ++ mW AB cI cZ τ)) H := by rw [← List.append_assoc]; exact hP
  have hD9 : va_D (fun q => s.heap.size ≤ q) (hfW A cI cQ σ ++ ([(o, .inl (cL, 1, .inr (.inl f)))] ++ mW AB cI cZ τ)) := by rw [← List.append_assoc]; exact hD
  have hFa := fa_all hD9 hS hA
  have hPl := ap_P hP9
  have hDl := ap_D hD9
  have hFl := fa_all hDl hS hA
  refine va_calli (va_runV (As := []) (rest := []) ⟨hx, hb, hml, hown, hts⟩ (hC H.size) (cwV 0 hts gL_law_X3_made rfl rfl rfl (by decide +kernel) ⟨Nat.le_of_ble_eq_true rfl, Nat.le_of_ble_eq_true rfl⟩) ⟨bl_F, va_recv hK hPl (ci := 3) (q0 := 0) rfl rfl, fun U hU hW => ⟨rfl, by rw [hU], by rw [hU]; exact hPl, hX.warm hW, hf_any hDl⟩⟩ rfl rfl hl.1 rfl (lv_room (Nat.le_of_ble_eq_true rfl)) dL_law_1016 ⟨by show _ + 0 ≤ 613737; omega, by show _ + 0 ≤ 7254893; omega⟩) hS (fun q _ h => hFl q h) hFl (fun r σ1 t H locs ht hvm hw hB hz1 hk1 hS => ?_)
  obtain ⟨rfl, hSs⟩ := hw
  obtain ⟨hP1, hD1⟩ := hB
  rw [ht] at hP1
  obtain ⟨hP8, hD8⟩ := fr_L rfl hP9 hD9 hP1 hD1 hk1
  have hP : va_P (dC, dI) vwCl (LW A cI cQ cL σ1 o f ++ mW AB cI cZ τ) H := by rw [List.append_assoc]; exact hP8
  have hD : va_D (fun q => s.heap.size ≤ q) (LW A cI cQ cL σ1 o f ++ mW AB cI cZ τ) := by rw [List.append_assoc]; exact hD8.weaken (fun _ q _ h => hFa q.1 h)
  clear hP9 hD9 hP8 hD8 hP1 hD1 hk1 hz1 hPl hDl hFl hFa
  obtain ⟨v, rfl⟩ : ∃ v, v = r := ⟨r, rfl⟩
  refine lv_aload_n hx hb dL_law_1019 rfl (lv_at hl 2 rfl) ?_
  have hFa := fa_all hD hS hA
  have hPm := ap_PR hP
  have hDm := ap_DR hD
  have hFm := fa_all hDm hS hA
  refine va_calli (va_runV (As := []) (rest := [.int v]) ⟨hx, hb, hml, hown, hts⟩ (hM H.size) (cwV 0 hts gL_law_X4_made rfl rfl rfl (by decide +kernel) ⟨Nat.le_of_ble_eq_true rfl, Nat.le_of_ble_eq_true rfl⟩) ⟨bm_F, va_recv hKM hPm (ci := 4) (q0 := 0) rfl rfl, fun U hU hW => ⟨rfl, by rw [hU], by rw [hU]; exact hPm, va_K.moved hW.alike hKM, hf_any hDm⟩⟩ rfl rfl hl.1 rfl (lv_room (Nat.le_of_ble_eq_true rfl)) dL_law_1020 ⟨by show _ + 0 ≤ 613737; omega, by show _ + 0 ≤ 7254893; omega⟩) hS (fun q _ h => hFm q h) hFm (fun r τ1 t H locs ht hvm hw hB hz1 hk1 hS => ?_)
  obtain ⟨rfl, hTt⟩ := hw
  obtain ⟨hP1, hD1⟩ := hB
  rw [ht] at hP1
  obtain ⟨hP, hD2⟩ := fr_R rfl hP hD hP1 hD1 hk1
  have hD := hD2.weaken (B := fun q => s.heap.size ≤ q) (fun _ q _ h => hFa q.1 h)
  clear hD2 hP1 hD1 hk1 hz1 hPm hDm hFm hFa
  refine lv_icmp_eq (tgt := 1128) hx hb dL_law_1023 (by decide) (fun c1023_0 => ?_) (fun c1023_0 => ?_)
  · skip
    refine W.widen (k := 52 + n + 1) (n := 1167 + 6 * n + 6) (by omega) (by omega) ?_
    exact ih _ _ _ _ _ _ ⟨hP, hD, hS, lv_sub hl [0, 1, 2, 3, 4] rfl, hfin _ _ hSs hTt⟩
  · exact absurd rfl c1023_0
set_option maxHeartbeats 4000000 in
set_option maxRecDepth 100000 in
/-- trace -/
theorem lc_trace {p : Program} {l : Launch} {e : Env} {s : State} {m : MethodId} {below : List Frame} {meth : Method} {c : Code} {b L : Nat} {xs : Nat → Int32} {dC : Nat → ClassId} {dI : Nat → Nat → Nat} {A AB : Nat → Nat} {cI cQ cZ cL : ClassId} {o n : Nat} {H : Heap} {locs : List Loc} {ls : Array Slot} {σ : HS} {τ : MS} {f : Nat → Int64} {Q : State → Prop} (C : LC p l s m meth c b L xs dC dI cI cQ cZ cL) (hn : 6 * n + 6 ≤ L) (hI : LI s b dC dI A AB cI cQ cZ cL o n H locs ls σ τ f)
    (ih : ∀ (H : Heap) (locs : List Loc) (ls : Array Slot) (σ : HS) (τ : MS) (f : Nat → Int64), LI s b dC dI A AB cI cQ cZ cL o n H locs ls σ τ f → W p l e room_1 s m #[Value.ref b] below meth c H locs (52 + n + 1) (1167 + 6 * n + 6) Q (F0 m 1128 ls [])) :
    W p l e room_1 s m #[Value.ref b] below meth c H locs (52 + n) (1167 + 6 * n) Q (F0 m 1028 ls []) := by
  obtain ⟨hx, hb, hml, hown, hts, ⟨hXs, hbl, hL⟩, hlt, hX, hKM, hKL, hH0, hN⟩ := C
  obtain ⟨hP, hD, hS, hl, hRE⟩ := hI
  obtain ⟨th, ef, se, C9, m9, c9, ta, tp, tq, ht9, hR⟩ := hRE
  have hbA : ¬ s.heap.size ≤ b := Nat.not_le.mpr hbl
  have hA : ∀ q : Nat, s.heap.size ≤ q → s.heap.size ≤ q := fun q h => h
  have hK := hX.1
  obtain ⟨oE, v, S, w, T, hC, hM, hdis⟩ := a_trace (l := l) (dC := dC) (dI := dI) (A := A) (AB := AB) (cI := cI) (cQ := cQ) (cZ := cZ) hR hlt (xs (6 * n + 1))
  obtain ⟨k, hk0, hfin, hkz⟩ := agr_k (by decide) hdis
  refine lv_aload_n hx hb dL_law_1028 rfl (lv_at hl 1 rfl) ?_
  refine lv_aload_n hx hb dL_law_1029 rfl (lv_at hl 0 rfl) ?_
  refine lv_iload hx hb dL_law_1030 (lv_at hl 4 rfl) ?_
  refine lv_iconst (v := 1) hx hb dL_law_1032 (by decide) ?_
  refine lv_iadd hx hb dL_law_1033 ?_
  refine lv_topi (fun y0 ey0 => ?_)
  obtain rfl : y0 = nI (6 * n + 1) := ey0.trans (nI_add (6 * n) 1)
  refine va_sld hx hb hXs hbl hbA hS (vp_in_nI (show 6 * n + 1 < L by omega) (by omega)) dL_law_1034 ?_
  rw [nI_clamp (show 6 * n + 1 < 2 ^ 31 by omega)]
  refine lv_aload_n hx hb dL_law_1035 rfl (lv_at hl 3 rfl) ?_
  have hFa := fa_all hD hS hA
  have hPl := ap_P hP
  have hDl := ap_D hD
  have hFl := fa_all hDl hS hA
  have hHl : HX (va_A (LW A cI cQ cL σ o f) H.size) s H := (hH0.kept fun q h1 h2 => hS.2.1 q h1 h2).narrow hFl
  refine va_calli (vx_runSW (As := [.ref (A 0), .int (xs (6 * n + 1)), .ref o]) (rest := []) ⟨hx, hb, hml, hown, hts⟩ (w_trace l dC dI A cI cQ cL σ (xs (6 * n + 1)) o f H.size hC hk0) (vx_cwSW 3 hts gL_law_L_trace rfl rfl rfl (by decide +kernel) ⟨Nat.le_of_ble_eq_true rfl, Nat.le_of_ble_eq_true rfl⟩) ⟨bl_L, fun U hU hW => ⟨rfl, by rw [hU], by rw [hU]; exact hPl, hX.warm hW, va_K.moved hW.alike hKL, hf_any hDl, by rw [hU]; exact HX.moved hW.alike hHl, hN.moved hW.alike⟩⟩ rfl rfl hl.1 rfl (lv_room (Nat.le_of_ble_eq_true rfl)) dL_law_1036 ⟨by show _ + 1 ≤ 613737; omega, by show _ + 6 ≤ 7254893; omega⟩) hS (fun q _ h => hFl q h) hFl (fun r u t H locs ht hvm hw hB hz1 hk1 hS => ?_)
  obtain ⟨σ1, f1⟩ := u
  obtain ⟨rfl, hSs, hout⟩ := hw
  obtain ⟨hP1, hD1⟩ := hB
  rw [ht] at hP1
  obtain ⟨hP, hD2⟩ := fr_L rfl hP hD hP1 hD1 hk1
  have hD := hD2.weaken (B := fun q => s.heap.size ≤ q) (fun _ q _ h => hFa q.1 h)
  clear hD2 hP1 hD1 hk1 hz1 hPl hDl hFl hFa hHl
  refine lv_istore (lv' := [(5, .int r), (0, .ref b), (1, .ref (A 0)), (2, .ref (AB 0)), (3, .ref o), (4, .int (nI (6 * n)))]) hx hb dL_law_1039 hl (by decide) rfl (fun ls hl => ?_)
  refine lv_aload_n hx hb dL_law_1041 rfl (lv_at hl 3 rfl) ?_
  refine lv_aload_n hx hb dL_law_1042 rfl (lv_at hl 1 rfl) ?_
  refine lv_iload hx hb dL_law_1043 (lv_at hl 5 rfl) ?_
  refine lv_iconst (v := 1) hx hb dL_law_1045 (by decide) ?_
  refine lv_iadd hx hb dL_law_1046 ?_
  refine lv_topi (fun y1 ey1 => ?_)
  obtain rfl : y1 = nI (6 * n + 1) := ey1.trans (nI_add (6 * n) 1)
  refine va_sld hx hb hXs hbl hbA hS (vp_in_nI (show 6 * n + 1 < L by omega) (by omega)) dL_law_1047 ?_
  rw [nI_clamp (show 6 * n + 1 < 2 ^ 31 by omega)]
  obtain ⟨k, rfl⟩ : ∃ k, k = r := ⟨r, rfl⟩
  have hFa := fa_all hD hS hA
  have hPm := ap_PR hP
  have hDm := ap_DR hD
  have hFm := fa_all hDm hS hA
  refine va_calli (va_runV (As := [.int (xs (6 * n + 1))]) (rest := []) ⟨hx, hb, hml, hown, hts⟩ (hM H.size) (cwV 1 hts gL_law_X4_trace rfl rfl rfl (by decide +kernel) ⟨Nat.le_of_ble_eq_true rfl, Nat.le_of_ble_eq_true rfl⟩) ⟨bm_F, va_recv hKM hPm (ci := 4) (q0 := 0) rfl rfl, fun U hU hW => ⟨rfl, by rw [hU], by rw [hU]; exact hPm, va_K.moved hW.alike hKM, hf_any hDm⟩⟩ rfl rfl hl.1 rfl (lv_room (Nat.le_of_ble_eq_true rfl)) dL_law_1048 ⟨by show _ + 0 ≤ 613737; omega, by show _ + 0 ≤ 7254893; omega⟩) hS (fun q _ h => hFm q h) hFm (fun r τ1 t H locs ht hvm hw hB hz1 hk1 hS => ?_)
  obtain ⟨rfl, hTt⟩ := hw
  obtain ⟨hP1, hD1⟩ := hB
  rw [ht] at hP1
  obtain ⟨hP, hD2⟩ := fr_R rfl hP hD hP1 hD1 hk1
  have hD := hD2.weaken (B := fun q => s.heap.size ≤ q) (fun _ q _ h => hFa q.1 h)
  clear hD2 hP1 hD1 hk1 hz1 hPm hDm hFm hFa
  refine lv_istore (lv' := [(6, .int r), (5, .int k), (0, .ref b), (1, .ref (A 0)), (2, .ref (AB 0)), (3, .ref o), (4, .int (nI (6 * n)))]) hx hb dL_law_1051 hl (by decide) rfl (fun ls hl => ?_)
  refine lv_aload_n hx hb dL_law_1053 rfl (lv_at hl 4 rfl) ?_
  have hPm := ap_PR hP
  refine vp_callSi (W.runV (As := []) (rest := []) ⟨hx, hb, hml, hown, hts⟩ (m_thrown l dC dI AB cI cZ τ1) (cwV 0 hts gL_law_X4_thrown rfl rfl rfl (by decide +kernel) ⟨Nat.le_of_ble_eq_true rfl, Nat.le_of_ble_eq_true rfl⟩) ⟨bm_P, va_recv hKM hPm (ci := 4) (q0 := 0) rfl rfl, fun U hU hW => ⟨rfl, by rw [hU]; exact hPm, va_K.moved hW.alike hKM⟩⟩ rfl rfl hl.1 rfl (lv_room (Nat.le_of_ble_eq_true rfl)) dL_law_1054 ⟨by show _ + 0 ≤ 613737; omega, by show _ + 0 ≤ 7254893; omega⟩) (fun r2 er => ?_)
  obtain ⟨hthr, hRE⟩ := hfin _ _ hSs hTt
  have er : r2 = k := er.trans hthr
  clear hPm
  refine lv_iload hx hb dL_law_1057 (lv_at hl 1 rfl) ?_
  refine lv_icmp_eq (tgt := 1064) hx hb dL_law_1059 (by decide) (fun c1059_2 => ?_) (fun c1059_2 => ?_)
  · skip
    refine lv_iload hx hb dL_law_1064 (lv_at hl 1 rfl) ?_
    refine lv_if_ne (tgt := 1081) hx hb dL_law_1066 (by decide) (fun c1066_3 => ?_) (fun c1066_3 => ?_)
    · skip
      refine lv_goto (tgt := 1128) hx hb dL_law_1081 (by decide) ?_
      exact ih _ _ _ _ _ _ ⟨hP, hD, hS, lv_sub hl [2, 3, 4, 5, 6] rfl, hRE⟩
    · skip
      refine lv_aload_n hx hb dL_law_1069 rfl (lv_at hl 5 rfl) ?_
      refine lv_iconst (v := 0) hx hb dL_law_1070 (by decide) ?_
      have hz0 : k = 0 := c1066_3
      obtain ⟨hnone, hwv⟩ := hkz hz0
      have hout := hout hnone
      refine va_lald hx hb hKL hP 24 0 rfl rfl in01 dL_law_1071 ?_
      refine lv_iload hx hb dL_law_1072 (lv_at hl 0 rfl) ?_
      refine lv_i2l (v := r.toInt64) hx hb dL_law_1074 rfl ?_
      refine lw_lcmp hx hb dL_law_1075 (hout.trans (by rw [hwv])) ?_
      refine lv_if_eq (tgt := 1081) hx hb dL_law_1076 (by decide) (fun c1076_4 => ?_) (fun c1076_4 => ?_)
      · skip
        refine lv_goto (tgt := 1128) hx hb dL_law_1081 (by decide) ?_
        exact ih _ _ _ _ _ _ ⟨hP, hD, hS, lv_sub hl [2, 3, 4, 5, 6] rfl, hRE⟩
      · exact absurd rfl c1076_4
  · exact absurd er c1059_2
set_option maxHeartbeats 4000000 in
set_option maxRecDepth 100000 in
/-- twins -/
theorem lc_twins {p : Program} {l : Launch} {e : Env} {s : State} {m : MethodId} {below : List Frame} {meth : Method} {c : Code} {b L : Nat} {xs : Nat → Int32} {dC : Nat → ClassId} {dI : Nat → Nat → Nat} {A AB : Nat → Nat} {cI cQ cZ cL : ClassId} {o n : Nat} {H : Heap} {locs : List Loc} {ls : Array Slot} {σ : HS} {τ : MS} {f : Nat → Int64} {Q : State → Prop} (C : LC p l s m meth c b L xs dC dI cI cQ cZ cL) (hn : 6 * n + 6 ≤ L) (hI : LI s b dC dI A AB cI cQ cZ cL o n H locs ls σ τ f)
    (ih : ∀ (H : Heap) (locs : List Loc) (ls : Array Slot) (σ : HS) (τ : MS) (f : Nat → Int64), LI s b dC dI A AB cI cQ cZ cL o n H locs ls σ τ f → W p l e room_1 s m #[Value.ref b] below meth c H locs (52 + n + 1) (1167 + 6 * n + 6) Q (F0 m 1128 ls [])) :
    W p l e room_1 s m #[Value.ref b] below meth c H locs (52 + n) (1167 + 6 * n) Q (F0 m 1084 ls []) := by
  obtain ⟨hx, hb, hml, hown, hts, ⟨hXs, hbl, hL⟩, hlt, hX, hKM, hKL, hH0, hN⟩ := C
  obtain ⟨hP, hD, hS, hl, hRE⟩ := hI
  obtain ⟨th, ef, se, C9, m9, c9, ta, tp, tq, ht9, hR⟩ := hRE
  have hbA : ¬ s.heap.size ≤ b := Nat.not_le.mpr hbl
  have hA : ∀ q : Nat, s.heap.size ≤ q → s.heap.size ≤ q := fun q h => h
  have hK := hX.1
  obtain ⟨oE, v, S, w, T, hC, hM, hdis⟩ := a_twins (l := l) (dC := dC) (dI := dI) (A := A) (AB := AB) (cI := cI) (cQ := cQ) (cZ := cZ) hR hlt 
  obtain ⟨k, hk0, hfin, hkz⟩ := agr_k (by decide) hdis
  refine lv_aload_n hx hb dL_law_1084 rfl (lv_at hl 1 rfl) ?_
  refine lv_aload_n hx hb dL_law_1085 rfl (lv_at hl 3 rfl) ?_
  have hFa := fa_all hD hS hA
  have hPl := ap_P hP
  have hDl := ap_D hD
  have hFl := fa_all hDl hS hA
  have hHl : HX (va_A (LW A cI cQ cL σ o f) H.size) s H := (hH0.kept fun q h1 h2 => hS.2.1 q h1 h2).narrow hFl
  refine va_calli (vx_runSW (As := [.ref (A 0), .ref o]) (rest := []) ⟨hx, hb, hml, hown, hts⟩ (w_twins l dC dI A cI cQ cL σ  o f H.size hC hk0) (vx_cwSW 2 hts gL_law_L_twins rfl rfl rfl (by decide +kernel) ⟨Nat.le_of_ble_eq_true rfl, Nat.le_of_ble_eq_true rfl⟩) ⟨bl_L, fun U hU hW => ⟨rfl, by rw [hU], by rw [hU]; exact hPl, hX.warm hW, va_K.moved hW.alike hKL, hf_any hDl, by rw [hU]; exact HX.moved hW.alike hHl, hN.moved hW.alike⟩⟩ rfl rfl hl.1 rfl (lv_room (Nat.le_of_ble_eq_true rfl)) dL_law_1086 ⟨by show _ + 1 ≤ 613737; omega, by show _ + 6 ≤ 7254893; omega⟩) hS (fun q _ h => hFl q h) hFl (fun r u t H locs ht hvm hw hB hz1 hk1 hS => ?_)
  obtain ⟨σ1, f1⟩ := u
  obtain ⟨rfl, hSs, hout⟩ := hw
  obtain ⟨hP1, hD1⟩ := hB
  rw [ht] at hP1
  obtain ⟨hP, hD2⟩ := fr_L rfl hP hD hP1 hD1 hk1
  have hD := hD2.weaken (B := fun q => s.heap.size ≤ q) (fun _ q _ h => hFa q.1 h)
  clear hD2 hP1 hD1 hk1 hz1 hPl hDl hFl hFa hHl
  refine lv_istore (lv' := [(5, .int r), (0, .ref b), (1, .ref (A 0)), (2, .ref (AB 0)), (3, .ref o), (4, .int (nI (6 * n)))]) hx hb dL_law_1089 hl (by decide) rfl (fun ls hl => ?_)
  refine lv_aload_n hx hb dL_law_1091 rfl (lv_at hl 3 rfl) ?_
  obtain ⟨k, rfl⟩ : ∃ k, k = r := ⟨r, rfl⟩
  have hFa := fa_all hD hS hA
  have hPm := ap_PR hP
  have hDm := ap_DR hD
  have hFm := fa_all hDm hS hA
  refine va_calli (va_runV (As := []) (rest := []) ⟨hx, hb, hml, hown, hts⟩ (hM H.size) (cwV 0 hts gL_law_X4_twins rfl rfl rfl (by decide +kernel) ⟨Nat.le_of_ble_eq_true rfl, Nat.le_of_ble_eq_true rfl⟩) ⟨bm_F, va_recv hKM hPm (ci := 4) (q0 := 0) rfl rfl, fun U hU hW => ⟨rfl, by rw [hU], by rw [hU]; exact hPm, va_K.moved hW.alike hKM, hf_any hDm⟩⟩ rfl rfl hl.1 rfl (lv_room (Nat.le_of_ble_eq_true rfl)) dL_law_1092 ⟨by show _ + 0 ≤ 613737; omega, by show _ + 0 ≤ 7254893; omega⟩) hS (fun q _ h => hFm q h) hFm (fun r τ1 t H locs ht hvm hw hB hz1 hk1 hS => ?_)
  obtain ⟨rfl, hTt⟩ := hw
  obtain ⟨hP1, hD1⟩ := hB
  rw [ht] at hP1
  obtain ⟨hP, hD2⟩ := fr_R rfl hP hD hP1 hD1 hk1
  have hD := hD2.weaken (B := fun q => s.heap.size ≤ q) (fun _ q _ h => hFa q.1 h)
  clear hD2 hP1 hD1 hk1 hz1 hPm hDm hFm hFa
  refine lv_istore (lv' := [(6, .int r), (5, .int k), (0, .ref b), (1, .ref (A 0)), (2, .ref (AB 0)), (3, .ref o), (4, .int (nI (6 * n)))]) hx hb dL_law_1095 hl (by decide) rfl (fun ls hl => ?_)
  refine lv_aload_n hx hb dL_law_1097 rfl (lv_at hl 4 rfl) ?_
  have hPm := ap_PR hP
  refine vp_callSi (W.runV (As := []) (rest := []) ⟨hx, hb, hml, hown, hts⟩ (m_thrown l dC dI AB cI cZ τ1) (cwV 0 hts gL_law_X4_thrown rfl rfl rfl (by decide +kernel) ⟨Nat.le_of_ble_eq_true rfl, Nat.le_of_ble_eq_true rfl⟩) ⟨bm_P, va_recv hKM hPm (ci := 4) (q0 := 0) rfl rfl, fun U hU hW => ⟨rfl, by rw [hU]; exact hPm, va_K.moved hW.alike hKM⟩⟩ rfl rfl hl.1 rfl (lv_room (Nat.le_of_ble_eq_true rfl)) dL_law_1098 ⟨by show _ + 0 ≤ 613737; omega, by show _ + 0 ≤ 7254893; omega⟩) (fun r2 er => ?_)
  obtain ⟨hthr, hRE⟩ := hfin _ _ hSs hTt
  have er : r2 = k := er.trans hthr
  clear hPm
  refine lv_iload hx hb dL_law_1101 (lv_at hl 1 rfl) ?_
  refine lv_icmp_eq (tgt := 1108) hx hb dL_law_1103 (by decide) (fun c1103_0 => ?_) (fun c1103_0 => ?_)
  · skip
    refine lv_iload hx hb dL_law_1108 (lv_at hl 1 rfl) ?_
    refine lv_if_ne (tgt := 1125) hx hb dL_law_1110 (by decide) (fun c1110_1 => ?_) (fun c1110_1 => ?_)
    · skip
      refine lv_goto (tgt := 1128) hx hb dL_law_1125 (by decide) ?_
      exact ih _ _ _ _ _ _ ⟨hP, hD, hS, lv_sub hl [2, 3, 4, 5, 6] rfl, hRE⟩
    · skip
      refine lv_aload_n hx hb dL_law_1113 rfl (lv_at hl 5 rfl) ?_
      refine lv_iconst (v := 0) hx hb dL_law_1114 (by decide) ?_
      have hz0 : k = 0 := c1110_1
      obtain ⟨hnone, hwv⟩ := hkz hz0
      have hout := hout hnone
      refine va_lald hx hb hKL hP 24 0 rfl rfl in01 dL_law_1115 ?_
      refine lv_iload hx hb dL_law_1116 (lv_at hl 0 rfl) ?_
      refine lv_i2l (v := r.toInt64) hx hb dL_law_1118 rfl ?_
      refine lw_lcmp hx hb dL_law_1119 (hout.trans (by rw [hwv])) ?_
      refine lv_if_eq (tgt := 1125) hx hb dL_law_1120 (by decide) (fun c1120_2 => ?_) (fun c1120_2 => ?_)
      · skip
        refine lv_goto (tgt := 1128) hx hb dL_law_1125 (by decide) ?_
        exact ih _ _ _ _ _ _ ⟨hP, hD, hS, lv_sub hl [2, 3, 4, 5, 6] rfl, hRE⟩
      · exact absurd rfl c1120_2
  · exact absurd er c1103_0
