/-! ===== the law's start ===== -/
theorem xbIn : ∀ w ∈ XB, w ∈ lw_tbl := by decide +kernel
theorem xsIn : ∀ q ∈ XS, Cond.stringRef RX3 q.1 q.2 ∈ lw_tbl := by decide +kernel
set_option maxHeartbeats 4000000 in
set_option maxRecDepth 100000 in
theorem xsEx {a : Array Value} {s : State} (h : (Jvm.Cond.and given_1 narrow_1).before a s = true) : ∀ q ∈ XS, (Cond.exactly (Term.string RX3 q.1) "java/lang/String").before a s = true := by
  have hf := flat_of_before _ h
  intro q hq
  exact hf _ ((by decide +kernel : ∀ q ∈ XS, Cond.exactly (Term.string RX3 q.1) "java/lang/String" ∈ _) q hq)
set_option maxHeartbeats 4000000 in
set_option maxRecDepth 100000 in
theorem ncEx {a : Array Value} {s : State} (h : (Jvm.Cond.and given_1 narrow_1).before a s = true) : NCs s := by
  have hf := flat_of_before _ h
  intro E hE F hF hne
  exact va_Nc.of (hf _ ((by decide +kernel : ∀ E ∈ xs5, ∀ F ∈ xs5, E ≠ F → Cond.not (.castable E F) ∈ _) E hE F hF hne))
set_option maxHeartbeats 4000000 in
set_option maxRecDepth 100000 in
theorem hxEx {a : Array Value} {s : State} (h : (Jvm.Cond.and given_1 narrow_1).before a s = true) (hts : ∀ w ∈ lw_tbl, w.before a s = true) : HX (fun q => s.heap.size ≤ q) s s.heap := by
  have hf := flat_of_before _ h
  have hA : ∀ a : Nat, a < s.heap.size → ¬ s.heap.size ≤ a := fun a h => Nat.not_le.mpr h
  obtain ⟨t, ht, hT⟩ := va_Tof (tm := .static "HiddenFacts" "TRUE_IN" "[I") (ty := .int) (N := 4) (f := tiF) (A := fun q => s.heap.size ≤ q) (args := a) (s := s) (by decide) (hf _ (by decide +kernel)) (va_eqt (z := 4) (hf _ (by decide +kernel))) (fun j hj => by
    rcases (show j = 0 ∨ j = 1 ∨ j = 2 ∨ j = 3 by omega) with rfl | rfl | rfl | rfl
    · exact va_eqt (z := 43690) (hf _ (by decide +kernel))
    · exact va_eqt (z := 52428) (hf _ (by decide +kernel))
    · exact va_eqt (z := 61680) (hf _ (by decide +kernel))
    · exact va_eqt (z := 65280) (hf _ (by decide +kernel))) hA
  exact ⟨vx_Zqof (args := a) (hts _ (by decide +kernel)) (hts _ (by decide +kernel)) (hf _ (by decide +kernel)) hA, vx_Zqof (args := a) (hts _ (by decide +kernel)) (hts _ (by decide +kernel)) (hf _ (by decide +kernel)) hA, t, va_Zof (args := a) (hts _ (by decide +kernel)) (hts _ (by decide +kernel)) ht hA, hT⟩
set_option maxHeartbeats 4000000 in
set_option maxRecDepth 100000 in
theorem whole_ctx {p : Program} {s : State} {m : MethodId} {meth : Method} {c : Code} {l : Launch} (hlt : l.stackTraces = false) {b L : Nat} {xs : Nat → Int32} (hL : L ≤ 3072) (C0 : lw_At p s m meth c b L xs) :
    ∃ (dC : Nat → ClassId) (dI : Nat → Nat → Nat) (cI cQ cZ cL : ClassId), LC p l s m meth c b L xs dC dI cI cQ cZ cL ∧ va_AO "HiddenFacts$Action" s := by
  obtain ⟨hx, hb, hr, hml, hown, hts, hX, hbl, hlocks, hgv⟩ := C0
  obtain ⟨k0, i0, h0⟩ := u_known (C := RX0) (T := TX0) (N := 5) (n := 5) hts inX0 (hts _ (by decide +kernel))
  obtain ⟨k1, i1, h1⟩ := u_known (C := RX1) (T := TX1) (N := 3) (n := 3) hts inX1 (hts _ (by decide +kernel))
  obtain ⟨k2, i2, h2⟩ := u_known (C := RX2) (T := TX2) (N := 2) (n := 2) hts inX2 (hts _ (by decide +kernel))
  obtain ⟨k3, i3, h3⟩ := u_known (C := RX3) (T := TX3) (N := 9) (n := 9) hts inX3 (hts _ (by decide +kernel))
  obtain ⟨k4, i4, h4⟩ := u_known (C := RX4) (T := TX4) (N := 33) (n := 33) hts inX4 (hts _ (by decide +kernel))
  obtain ⟨cI, qI, pI, fI, gI, eI⟩ := Cond.arrayClass_spec (type := .int) (hts _ (by decide +kernel))
  obtain ⟨cZ, qZ, pZ, fZ, gZ, eZ⟩ := Cond.arrayClass_spec (type := .boolean) (hts _ (by decide +kernel))
  obtain ⟨cL, qL, pL, fL, gL, eL⟩ := Cond.arrayClass_spec (type := .long) (hts _ (by decide +kernel))
  have hAO : (Cond.arrayOver (.object "HiddenFacts$Action")).before #[Value.ref b] s = true := hts _ (by decide +kernel)
  obtain ⟨pQ, cQ, qQ, dQ, -, gQ, eQ, fQ⟩ := Cond.arrayOver_spec hAO
  obtain ⟨dC, hdC⟩ : ∃ d : Nat → ClassId, d = (fun c => match c with | 0 => k0 | 1 => k1 | 2 => k2 | 3 => k3 | _ => k4) := ⟨_, rfl⟩
  obtain ⟨dI, hdI⟩ : ∃ d : Nat → Nat → Nat, d = (fun c => match c with | 0 => i0 | 1 => i1 | 2 => i2 | 3 => i3 | _ => i4) := ⟨_, rfl⟩
  have hKc : ∀ (c : Nat) (q : vw_C), vwCl[c]? = some q → u_Kn s q.1 q.2.1 q.2.2 (dC c) (dI c) := by
    subst hdC; subst hdI
    intro c q hq
    match c, hq with
    | 0, hq => cases hq; exact h0
    | 1, hq => cases hq; exact h1
    | 2, hq => cases hq; exact h2
    | 3, hq => cases hq; exact h3
    | 4, hq => cases hq; exact h4
    | n + 5, hq => cases hq
  have tI : ArrOfT s cI .int ∧ va_RA s cI .int := ⟨fun N z => ⟨(fun k h => by cases h), qI, gI, pI, eI⟩, fI⟩
  have tZ : ArrOfT s cZ .boolean ∧ va_RA s cZ .boolean := ⟨fun N z => ⟨(fun k h => by cases h), qZ, gZ, pZ, eZ⟩, fZ⟩
  have tL : ArrOfT s cL .long ∧ va_RA s cL .long := ⟨fun N z => ⟨(fun k h => by cases h), qL, gL, pL, eL⟩, fL⟩
  have tQ : ArrOfT s cQ (.object "HiddenFacts$Action") ∧ va_RA s cQ (.object "HiddenFacts$Action") := ⟨fun N z => ⟨(fun k h => by cases h), qQ, gQ, pQ, eQ⟩, qQ, pQ, gQ, eQ, dQ, fQ⟩
  refine ⟨dC, dI, cI, cQ, cZ, cL, ⟨hx, hb, hml, hown, fun w h => hts w (wsL_law_in w h), ⟨hX, hbl, hL⟩, hlt, ⟨⟨hKc, fun k q hq => ?_⟩, fun w hw => va_Nw.of (XB_ot w hw) (hts w (xbIn w hw)), fun q hq => ?_⟩, ⟨hKc, fun k q hq => ?_⟩, ⟨hKc, fun k q hq => ?_⟩, hxEx hgv hts, ncEx hgv⟩, va_AO.of hAO⟩
  · match k, hq with
    | 0, hq => cases hq; exact tI
    | 1, hq => cases hq; exact tQ
    | n + 2, hq => cases hq
  · obtain ⟨a, c, cA, kA, q1, q2, q3, q4, q5, q6, -⟩ := Cond.exactly_spec (args := #[Value.ref b]) (first := s) (o := none) (s := s) (idx := []) (t := Term.string RX3 q.1) (cls := "java/lang/String") (xsEx hgv q hq)
    exact ⟨a, vk_R.of (A := #[Value.ref b]) (hts _ (xsIn q hq)) q1⟩
  · match k, hq with
    | 0, hq => cases hq; exact tI
    | 1, hq => cases hq; exact tZ
    | n + 2, hq => cases hq
  · match k, hq with
    | 0, hq => cases hq; exact tL
    | n + 1, hq => cases hq
theorem arr_sameL {D : va_G} {cl : List vw_C} {tys : List (ClassId × FieldType)} {s : State} {cI cA : ClassId} {k : Nat} (hK : va_K D cl tys s) (h0 : tys[k]? = some (cI, .long)) (hK2 : va_K D cl (tys ++ [(cA, .long)]) s) : cI = cA := by
  have h1 := (hK.2 k _ h0).2
  have h2 := (hK2.2 tys.length (cA, .long) (by rw [List.getElem?_append_right (Nat.le_refl _), Nat.sub_self]; rfl)).2
  exact Option.some.inj (Eq.trans (Eq.symm h1) h2)
