set_option maxHeartbeats 4000000 in
set_option maxRecDepth 100000 in
theorem whole_start {p : Program} {e : Env} {s : State} {m : MethodId} {below : List Frame} {meth : Method} {c : Code} (l : Launch) (hlt : l.stackTraces = false) {b L : Nat} {xs : Nat → Int32} (hL : L ≤ 3072) (C0 : lw_At p s m meth c b L xs) : W p l e room_1 s m #[Value.ref b] below meth c s.heap [] 0 0 (lw_Z below #[Value.ref b] s) (entryFrame m ([Value.ref b] : List Value).toArray 7) := by
  obtain ⟨dC, dI, cI, cQ, cZ, cL, C, hAO⟩ := whole_ctx hlt hL C0
  obtain ⟨-, -, hr, -, -, hts0, -, -, hlocks, -⟩ := C0
  obtain ⟨hx, hb, hml, hown, hts, ⟨hXs, hbl, -⟩, -, hX, hKM, hKL, hH0, hN⟩ := id C
  have hl := lv_entry ([.ref b]) (n := 7) (Nat.le_of_ble_eq_true rfl)
  rw [lg_entry_eq]
  generalize (lg_sl ([.ref b]) ++ List.replicate (7 - (lg_sl ([.ref b])).length) Slot.unset).toArray = ls at hl ⊢
  have hl : lv_has ls 7 [(0, .ref b)] := hl
  have hA : ∀ q : Nat, s.heap.size ≤ q → s.heap.size ≤ q := fun q h => h
  have hP : va_P (dC, dI) vwCl [] s.heap := fun k q h => by cases h
  have hD : va_D (fun q => s.heap.size ≤ q) [] := ⟨(fun i j p q h => by cases h), (fun k q h => by cases h)⟩
  have hS : va_S (fun q => s.heap.size ≤ q) s.heap s.heap [] := va_S.rf
  have hK := hX.1
  refine va_new (ci := 3) (fs := [.null, .null, .null, .null, .int 0, .int 0, .int 0, .int 0, .int 0]) (C := RX3) (T := TX3) (N := 9) hx hb hts inlX3 tyX3 tyX3_ok hown (hts0 (.classLink RL 8 RX3) (by decide +kernel)) (hts0 (.instantiable RX3 9) (by decide +kernel)) (hts0 (.initialized RX3) (by decide +kernel)) hK hP hD hS hA rfl (fun j hj => by rcases (show j = 0 ∨ j = 1 ∨ j = 2 ∨ j = 3 ∨ j = 4 ∨ j = 5 ∨ j = 6 ∨ j = 7 ∨ j = 8 by omega) with rfl | rfl | rfl | rfl | rfl | rfl | rfl | rfl | rfl <;> rfl) (Nat.le_of_ble_eq_true rfl) (Nat.le_of_ble_eq_true rfl) dL_law_0 (fun q H hP hD hS => ?_)
  have hP : va_P (dC, dI) vwCl [(q, .inr (3, [.null, .null, .null, .null, .int 0, .int 0, .int 0, .int 0, .int 0]))] H := hP
  have hD : va_D (fun q => s.heap.size ≤ q) [(q, .inr (3, [.null, .null, .null, .null, .int 0, .int 0, .int 0, .int 0, .int 0]))] := hD
  refine lv_dup hx hb dL_law_3 rfl ?_
  have hFc := fa_all hD hS hA
  refine va_callv (va_runI (As := []) (rest := [.ref q]) ⟨hx, hb, hml, hown, hts⟩ (c_X3_init l dC dI cI cQ q H.size) (cwI 0 hts gL_law_X3_init rfl rfl rfl (hts0 (.initialized RX3) (by decide +kernel)) (hts0 (.methodLink RL 68 yX3_init) (by decide +kernel)) (hts0 (.instanceMethod yX3_init) (by decide +kernel)) rfl (by decide +kernel) ⟨Nat.le_of_ble_eq_true rfl, Nat.le_of_ble_eq_true rfl⟩) ⟨fun a U g mk q => ⟨q.1, ⟨q.2.1.1, q.2.1.2.1, q.2.1.2.2.1.same g mk a, q.2.1.2.2.2⟩, va_AO.moved (u := U) (U := U.calling g mk a) (Vm.Alike.refl U.vm) q.2.2⟩, fun U hU hW => ⟨rfl, ⟨by rw [hU], by rw [hU]; exact hP, hX.warm hW, hf_any hD⟩, va_AO.moved hW.alike hAO⟩⟩ rfl rfl hl.1 rfl (lv_room (Nat.le_of_ble_eq_true rfl)) dL_law_4 ⟨Nat.le_of_ble_eq_true rfl, Nat.le_of_ble_eq_true rfl⟩) hS (fun q _ h => hFc q h) hFc (fun A t H locs ht hvm hw hB hz1 hk1 hS => ?_)
  obtain ⟨hP1, hD1⟩ := hB
  rw [ht] at hP1
  have hw : A 0 = q := hw
  subst hw
  have hP : va_P (dC, dI) vwCl (hfW A cI cQ ((0, 65535, 65535, -1, 0), (0, fun _ => 0), (0, fun _ => 0, fun _ => 0), fun _ => 0, clrN (fun _ _ => 0) 8, fun _ _ => 0)) H := hP1
  have hD : va_D (fun q => s.heap.size ≤ q) (hfW A cI cQ ((0, 65535, 65535, -1, 0), (0, fun _ => 0), (0, fun _ => 0, fun _ => 0), fun _ => 0, clrN (fun _ _ => 0) 8, fun _ _ => 0)) := hD1.weaken (fun _ q _ h => hFc q.1 h)
  clear hP1 hD1 hFc hk1 hz1
  generalize hσ : (((0, 65535, 65535, -1, 0), (0, fun _ => 0), (0, fun _ => 0, fun _ => 0), fun _ => 0, clrN (fun _ _ => 0) 8, fun _ _ => 0) : HS) = σ0 at hP hD
  refine lv_astore_n (lv' := [(1, .ref (A 0)), (0, .ref b)]) hx hb dL_law_7 rfl hl (by decide) rfl (fun ls hl => ?_)
  refine va_new (ci := 4) (fs := [.int 0, .null, .null, .null, .null, .null, .null, .null, .null, .null, .int 0, .null, .null, .int 0, .int 0, .int 0, .null, .null, .null, .null, .null, .null, .null, .null, .null, .null, .null, .null, .int 0, .int 0, .null, .null, .null]) (C := RX4) (T := TX4) (N := 33) hx hb hts inlX4 tyX4 tyX4_ok hown (hts0 (.classLink RL 69 RX4) (by decide +kernel)) (hts0 (.instantiable RX4 33) (by decide +kernel)) (hts0 (.initialized RX4) (by decide +kernel)) hKM hP hD hS hA rfl (fun j hj => by rcases (show j = 0 ∨ j = 1 ∨ j = 2 ∨ j = 3 ∨ j = 4 ∨ j = 5 ∨ j = 6 ∨ j = 7 ∨ j = 8 ∨ j = 9 ∨ j = 10 ∨ j = 11 ∨ j = 12 ∨ j = 13 ∨ j = 14 ∨ j = 15 ∨ j = 16 ∨ j = 17 ∨ j = 18 ∨ j = 19 ∨ j = 20 ∨ j = 21 ∨ j = 22 ∨ j = 23 ∨ j = 24 ∨ j = 25 ∨ j = 26 ∨ j = 27 ∨ j = 28 ∨ j = 29 ∨ j = 30 ∨ j = 31 ∨ j = 32 by omega) with rfl | rfl | rfl | rfl | rfl | rfl | rfl | rfl | rfl | rfl | rfl | rfl | rfl | rfl | rfl | rfl | rfl | rfl | rfl | rfl | rfl | rfl | rfl | rfl | rfl | rfl | rfl | rfl | rfl | rfl | rfl | rfl | rfl <;> rfl) (Nat.le_of_ble_eq_true rfl) (Nat.le_of_ble_eq_true rfl) dL_law_8 (fun q H hP hD hS => ?_)
  refine lv_dup hx hb dL_law_11 rfl ?_
  have hFa := fa_all hD hS hA
  have hPm := ap_PR hP
  have hDm := ap_DR hD
  have hFc := fa_all hDm hS hA
  refine va_callv (va_runI (As := []) (rest := [.ref q]) ⟨hx, hb, hml, hown, hts⟩ (c_X4_init l dC dI cI cZ q H.size) (cwI 0 hts gL_law_X4_init rfl rfl rfl (hts0 (.initialized RX4) (by decide +kernel)) (hts0 (.methodLink RL 71 yX4_init) (by decide +kernel)) (hts0 (.instanceMethod yX4_init) (by decide +kernel)) rfl (by decide +kernel) ⟨Nat.le_of_ble_eq_true rfl, Nat.le_of_ble_eq_true rfl⟩) ⟨bm_N, fun U hU hW => ⟨rfl, by rw [hU], by rw [hU]; exact hPm, va_K.moved hW.alike hKM, hf_any hDm⟩⟩ rfl rfl hl.1 rfl (lv_room (Nat.le_of_ble_eq_true rfl)) dL_law_12 ⟨Nat.le_of_ble_eq_true rfl, Nat.le_of_ble_eq_true rfl⟩) hS (fun q _ h => hFc q h) hFc (fun AB t H locs ht hvm hw hB hz1 hk1 hS => ?_)
  obtain ⟨hP1, hD1⟩ := hB
  rw [ht] at hP1
  have hw : AB 0 = q := hw
  subst hw
  obtain ⟨hP, hD2⟩ := fr_R rfl hP hD hP1 hD1 hk1
  have hD := hD2.weaken (B := fun q => s.heap.size ≤ q) (fun _ q _ h => hFa q.1 h)
  clear hP1 hD1 hD2 hFc hFa hPm hDm hk1 hz1
  generalize hτ : ((va_up (fun _ => 0) 28 (-1), fun _ _ => 0) : MS) = τ0 at hP hD
  refine lv_astore_n (lv' := [(2, .ref (AB 0)), (1, .ref (A 0)), (0, .ref b)]) hx hb dL_law_15 rfl hl (by decide) rfl (fun ls hl => ?_)
  refine lv_iconst (v := 1) hx hb dL_law_16 (by decide) ?_
  refine va_newa (atype := .long) (a0 := (1, .inr (.inl (fun _ => 0)))) (N' := 1) hx hb (hts0 (.arrayClass .long) (by decide +kernel)) (ty := .long) rfl hKL hP hD hS hA (fun _ => rfl) (by decide) (by decide) (by decide) (Nat.le_of_ble_eq_true rfl) (Nat.le_of_ble_eq_true rfl) dL_law_17 (fun o cA H hK2 hP hD hS => ?_)
  obtain rfl := arr_sameL hKL (k := 0) rfl hK2
  have hP := hP.swap
  have hD := hD.swap
  refine lv_astore_n (lv' := [(3, .ref o), (2, .ref (AB 0)), (1, .ref (A 0)), (0, .ref b)]) hx hb dL_law_19 rfl hl (by decide) rfl (fun ls hl => ?_)
  refine lv_iconst (v := 0) hx hb dL_law_20 (by decide) ?_
  refine lv_istore (lv' := [(4, .int 0), (3, .ref o), (2, .ref (AB 0)), (1, .ref (A 0)), (0, .ref b)]) hx hb dL_law_21 hl (by decide) rfl (fun ls hl => ?_)
  refine W.widen (k := 52 + 0) (n := 1167 + 6 * 0) (Nat.le_of_ble_eq_true rfl) (Nat.le_of_ble_eq_true rfl) ?_
  exact law_loop (A := A) (AB := AB) (o := o) C hr hlocks (L / 6) 0 (by omega) H locs ls σ0 τ0 (fun _ => 0) ⟨hP, hD, hS, lv_sub hl [4, 3, 2, 1, 0] rfl, by subst hσ; subst hτ; exact Rel.init.E⟩
