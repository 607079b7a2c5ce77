/-! ===== what the other calls make of the relation ===== -/
theorem bc_cn : ∀ i, i < 16 → ∀ j, j < 16 → bcF (mk (demF (nI i) (nI j))) = nI (cnB (demF (nI i) (nI j)) 16) := by decide +kernel
theorem acp_cg {σ σ' : HS} {τ τ' : MS} {th : Nat → Bool} {ef : Nat → Nat} {se : Nat → Option Nat} (e1 : acS σ' = acS σ) (e2 : nxS σ' = nxS σ) (e3 : ∀ k, k < 10 → τ'.2 k = τ.2 k)
    (h : ∀ a, a < 8 → acS σ a 0 = b2i (th a) ∧ (τ.2 4 a = o2i (se a) ∧ ∀ j, se a = some j → j < 4) ∧ (∀ j, j < 16 → ∃ v, v < 16 ∧ nxS σ a j = nI v) ∧ (th a = true → acR σ τ ef se a)) :
    ∀ a, a < 8 → acS σ' a 0 = b2i (th a) ∧ (τ'.2 4 a = o2i (se a) ∧ ∀ j, se a = some j → j < 4) ∧ (∀ j, j < 16 → ∃ v, v < 16 ∧ nxS σ' a j = nI v) ∧ (th a = true → acR σ' τ' ef se a) := by
  intro a ha
  obtain ⟨b1, b2, b3, b4⟩ := h a ha
  unfold acR
  rw [e1, e2, e3 4 (by decide), e3 2 (by decide), e3 3 (by decide)]
  refine ⟨b1, b2, b3, fun q => ?_⟩
  obtain ⟨d1, d2, d3, d4⟩ := b4 q
  exact ⟨d1, d2, d3, fun j hj => (d4 j hj).trans (nxN_cg (ef a) fun i _ => ⟨by rw [e3 6 (by decide)], by rw [e3 7 (by decide)], by rw [e3 8 (by decide)], by rw [e3 9 (by decide)]⟩).symm⟩
theorem vup_far {f : Nat → Nat → Int32} {k i : Nat} {v : Nat → Int32} (h : k < 10) (hi : 10 ≤ i) : va_up f i v k = f k := vup_ne (by omega)
section STEP2
variable {σ : HS} {τ : MS} {th : Nat → Bool} {ef : Nat → Nat} {se : Nat → Option Nat} {C m c0 : Nat} {ta tp tq : Nat → Option Nat} {ht : Nat → Nat}
theorem Rel.clause (h : Rel σ τ th ef se C m c0 ta tp tq ht) (mm vv : Int32) (hC : C < 6) : Rel ((clS σ + 1, stS σ &&& mk (alwF mm vv), goS σ, hiS σ, maS σ), σ.2) (va_up (va_up τ.1 0 0) 10 (nI (C + 1)), va_up (va_up τ.2 11 (upd (τ.2 11) C mm)) 12 (upd (τ.2 12) C vv)) th ef se (C + 1) m c0 ta tp tq ht := by
  refine ⟨h.1, acp_cg rfl rfl (fun k hk => by show va_up (va_up τ.2 11 _) 12 _ k = _; rw [vup_far hk (by decide), vup_far hk (by decide)]) h.2.1, ⟨?_, rfl, by omega, ?_⟩, h.2.2.2⟩
  · show clS σ + 1 = _
    rw [h.2.2.1.1]
    exact nI_1 C
  · show stS σ &&& mk (alwF mm vv) = _
    rw [h.2.2.1.2.2.2]
    unfold stR
    refine ext16 (is16_and _ (is16_mk _)) (is16_mk _) fun i hi => ?_
    rw [b_and, bt_mk' _ hi, bt_mk' _ hi, bt_mk' _ hi, allN]
    show (allN (fun c => alwF (τ.2 11 c) (τ.2 12 c) i) C && alwF mm vv i) = (allN (fun c => alwF (upd (τ.2 11) C mm c) (upd (τ.2 12) C vv c) i) C && alwF (upd (τ.2 11) C mm C) (upd (τ.2 12) C vv C) i)
    rw [upd_eq, upd_eq]
    congr 1
    apply bool_iff
    rw [allN_iff, allN_iff]
    constructor
    · intro q j hj
      have := q j hj
      rw [upd_ne (by omega), upd_ne (by omega)]
      exact this
    · intro q j hj
      have := q j hj
      rw [upd_ne (by omega), upd_ne (by omega)] at this
      exact this
theorem Rel.goal (h : Rel σ τ th ef se C m c0 ta tp tq ht) (mm vv : Int32) : Rel ((clS σ, stS σ, mk (demF mm vv), hiS σ, maS σ), σ.2) (va_up (va_up (va_up τ.1 0 0) 13 mm) 14 vv, τ.2) th ef se C m c0 ta tp tq ht := ⟨h.1, h.2.1, h.2.2.1, rfl, h.2.2.2.2⟩
theorem Rel.hide (h : Rel σ τ th ef se C m c0 ta tp tq ht) {k : Nat} (hk : k < 16) : Rel ((clS σ, stS σ, goS σ, nI k, maS σ), σ.2) (va_up (va_up τ.1 0 0) 28 (nI k), τ.2) th ef se C m c0 ta tp tq ht := ⟨h.1, h.2.1, h.2.2.1, h.2.2.2.1, ⟨rfl, Or.inr ⟨k, hk, rfl⟩⟩, h.2.2.2.2.2⟩
theorem Rel.plan (h : Rel σ τ th ef se C m c0 ta tp tq ht) {n : Nat} (hn : n ≤ 4) (h0 : ¬ stS σ = 0) {τ2 : MS} (hb : bldP th ef n (stR τ C) τ τ2 0) :
    ∃ c1 ta1 tp1 tq1 ht1, Rel (σ.1, (nI (grS σ n (stS σ) 0 (tcS σ)).2.1, (grS σ n (stS σ) 0 (tcS σ)).2.2), σ.2.2) τ2 th ef se C m c1 ta1 tp1 tq1 ht1 := by
  obtain ⟨bel, dos, num, g, na, nf, ns, nm, T2, rfl, ⟨e16, e17, e18⟩, ear, e30, hB, hl31, hK⟩ := hb
  have hs : is16 (stR τ C) := st16 τ C
  have hpos : ∀ k, 1 ≤ k → k < 32 → ¬ bel k = 0 → 0 < bel k := fun k k1 k2 k0 => pos16 (hB.b16 hs h.p16 k1 k2) k0
  obtain ⟨c1, ta1, tp1, tq1, ht1, p0, p1, p2, p3, p4, p5⟩ := plan_tbl (tc := tcS σ) h.ag hn (by rw [← h.st]; exact h0) hs hB hpos hK
  refine ⟨c1, ta1, tp1, tq1, ht1, ?_⟩
  have hz : frz (va_up (va_up τ.1 0 0) 15 (nI (nrun bel dos (samN bel dos g) 31 [1] []).length), T2) τ := ⟨ear, rfl, rfl, rfl⟩
  obtain ⟨⟨a1, a2⟩, a3, ⟨a4, a5, a6, a7⟩, a8, ⟨a9, a10⟩, ⟨a11, a12, a13, a14⟩, a15, a16, a17, a18, a19⟩ := h
  refine ⟨⟨hz.mok a1, fun k hk => ?_⟩, fun a ha => ?_, ⟨a4, a5, a6, a7.trans (congrFun hz.st C).symm⟩, a8, ⟨a9, a10⟩, ⟨a11, a12, a13, fun k hk => ?_⟩, ?_, ?_, p3, ?_, ?_⟩
  · show ∃ f, f < 4 ∧ T2 6 k = nI f
    rw [ear 6 (by decide)]
    exact a2 k hk
  · obtain ⟨b1, b2, b3, b4⟩ := a3 a ha
    refine ⟨b1, ?_, b3, fun q => ?_⟩
    · show T2 4 a = _ ∧ _
      rw [ear 4 (by decide)]; exact b2
    · obtain ⟨d1, d2, d3, d4⟩ := b4 q
      refine ⟨?_, d2, d3, fun j hj => (d4 j hj).trans (hz.nx _ _ _).symm⟩
      show acS σ a 1 = mk (demF (T2 2 a) (T2 3 a))
      rw [ear 2 (by decide), ear 3 (by decide)]; exact d1
  · show trS σ k = T2 30 k
    rw [e30]; exact a14 k hk
  · show nI (grS σ n (stS σ) 0 (tcS σ)).2.1 = nI c1
    rw [← p1, a7]
  · show nI (nrun bel dos (samN bel dos g) 31 [1] []).length = nI c1
    rw [p2]
  · show tOK (grS σ n (stS σ) 0 (tcS σ)).2.2 c1 ta1 tp1 tq1
    rw [a7]; exact p4
  · intro k hk
    show T2 16 k = _ ∧ T2 17 k = _ ∧ T2 18 k = _
    rw [e16, e17, e18]
    exact p5 k hk
theorem Rel.edit (h : Rel σ τ th ef se C m c0 ta tp tq ht) {i a : Nat} (hi : i < c0) (ha : a < 8) (hne : ¬ ta i = none) : Rel (σ.1, (ctS σ, upd (tcS σ) (3 * i) (nI a)), σ.2.2) (va_up τ.1 0 0, va_up τ.2 16 (upd (τ.2 16) i (nI a))) th ef se C m c0 (va_up ta i (some a)) tp tq ht := by
  obtain ⟨a1, a3, a4, a8, a9, a11, a15, a16, a17, a18, a19⟩ := h
  refine ⟨a1, acp_cg rfl rfl (fun k hk => vup_far hk (by decide)) a3, a4, a8, a9, a11, a15, a16, ⟨a17.1, fun k hk => ?_⟩, ⟨a18.1, fun k hk => ?_⟩, fun k hk => ?_⟩
  · obtain ⟨b1, b2, b3⟩ := a17.2 k hk
    refine ⟨b1, fun x hx => ?_, b3⟩
    by_cases e : k = i
    · subst e
      rw [vup_eq] at hx
      cases hx
      cases hq : ta k with
      | none => exact absurd hq hne
      | some x => exact ⟨ha, (b2 x hq).2⟩
    · rw [vup_ne e] at hx
      exact b2 x hx
  · obtain ⟨b1, b2, b3, b4, b5⟩ := a18.2 k hk
    show upd (tcS σ) (3 * i) (nI a) (3 * k + 0) = _ ∧ upd (tcS σ) (3 * i) (nI a) (3 * k + 1) = _ ∧ upd (tcS σ) (3 * i) (nI a) (3 * k + 2) = _ ∧ _
    rw [upd_ne (show ¬ 3 * k + 1 = 3 * i by omega), upd_ne (show ¬ 3 * k + 2 = 3 * i by omega)]
    by_cases e : k = i
    · subst e
      rw [vup_eq, show 3 * k + 0 = 3 * k from rfl, upd_eq]
      exact ⟨rfl, b2, b3, fun x hx => by cases hx; exact ha, b5⟩
    · rw [vup_ne e, upd_ne (show ¬ 3 * k + 0 = 3 * i by omega)]
      exact ⟨b1, b2, b3, b4, b5⟩
  · obtain ⟨b1, b2, b3⟩ := a19 k hk
    show upd (τ.2 16) i (nI a) k = _ ∧ _ ∧ _
    by_cases e : k = i
    · subst e; rw [vup_eq, upd_eq]; exact ⟨rfl, b2, b3⟩
    · rw [vup_ne e, upd_ne e]; exact ⟨b1, b2, b3⟩
theorem one16 {s : Nat} (hs : s < 16) : is16 ((1 : Int32) <<< (nI s &&& 31)) := by
  intro i hi
  rcases Nat.lt_or_ge i 32 with z | z
  · rw [b_one (by omega) z, decide_eq_false (by omega)]
  · exact b_big z
theorem Rel.nxa (h : Rel σ τ th ef se C m c0 ta tp tq ht) {a : Nat} (ha : a < 8) (hth : th a = true) : snS σ a = tiI (se a) ∧ ∀ j, j < 16 → i2n (nxS σ a j) = i2n (nxN τ.2 a j (ef a)) := by
  obtain ⟨d1, d2, d3, d4⟩ := (h.2.1 a ha).2.2.2 hth
  exact ⟨d2, fun j hj => by rw [d4 j hj]⟩
theorem Rel.cr (h : Rel σ τ th ef se C m c0 ta tp tq ht) {h0 : Nat} (h16 : h0 < 16) (hc0 : 0 < c0) :
    let X := crO (usS σ) (fun a u => i2n (nxS σ a u)) (snS σ) (goS σ) ta tp tq 4 (some 0) h0 0 (trS σ)
    let Y := crO (usR th τ) (fun a u => i2n (nxN τ.2 a u (ef a))) (fun a => tiI (se a)) (mk (demF (τ.1 13) (τ.1 14))) ta tp tq 4 (some 0) h0 0 (τ.2 30)
    X.1 = Y.1 ∧ X.2.1 = Y.2.1 ∧ X.2.1 ≤ 0 + 4 ∧ ∀ k, k < X.2.1 → X.2.2 k = Y.2.2 k := by
  intro X Y
  refine cr_cg (ht := ht) h.2.2.2.2.2.2.2.2.1 (fun a ha s hs => h.us ha (one16 hs)) (fun a ha s hs hu => ?_) (fun s hs => by rw [h.2.2.2.1]) 4 (some 0) h0 0 (trS σ) (τ.2 30) (fun k q => by cases q; exact hc0) h16 (fun k hk => absurd hk (by omega))
  have hth : th a = true := us_th (by rw [← h.us ha (one16 hs)]; exact hu)
  obtain ⟨e1, e2⟩ := h.nxa ha hth
  exact ⟨e2 s hs, (h.yS a ha s hs).2, e1⟩
theorem Rel.execute (h : Rel σ τ th ef se C m c0 ta tp tq ht) {h0 : Nat} (h16 : h0 < 16) (hc0 : 0 < c0) :
    Rel ((clS σ, stS σ, goS σ, hiS σ, nI (crO (usS σ) (fun a u => i2n (nxS σ a u)) (snS σ) (goS σ) ta tp tq 4 (some 0) h0 0 (trS σ)).2.1), σ.2.1, σ.2.2.1, (crO (usS σ) (fun a u => i2n (nxS σ a u)) (snS σ) (goS σ) ta tp tq 4 (some 0) h0 0 (trS σ)).2.2, σ.2.2.2.2)
      (va_up (va_up τ.1 0 0) 29 (nI (crO (usR th τ) (fun a u => i2n (nxN τ.2 a u (ef a))) (fun a => tiI (se a)) (mk (demF (τ.1 13) (τ.1 14))) ta tp tq 4 (some 0) h0 0 (τ.2 30)).2.1), va_up τ.2 30 (crO (usR th τ) (fun a u => i2n (nxN τ.2 a u (ef a))) (fun a => tiI (se a)) (mk (demF (τ.1 13) (τ.1 14))) ta tp tq 4 (some 0) h0 0 (τ.2 30)).2.2) th ef se C
      (crO (usS σ) (fun a u => i2n (nxS σ a u)) (snS σ) (goS σ) ta tp tq 4 (some 0) h0 0 (trS σ)).2.1 c0 ta tp tq ht := by
  obtain ⟨r1, r2, r3, r4⟩ := h.cr h16 hc0
  refine ⟨h.1, acp_cg rfl rfl (fun k hk => vup_far hk (by decide)) h.2.1, h.2.2.1, h.2.2.2.1, h.2.2.2.2.1, ⟨rfl, ?_, by omega, r4⟩, h.2.2.2.2.2.2⟩
  show nI _ = nI _
  rw [r2]
theorem Rel.right (h : Rel σ τ th ef se C m c0 ta tp tq ht) (hc0 : 0 < c0) : fitO (usS σ) (ptS σ) (reS σ) ta tp tq 5 (some 0) (stS σ) = fitO (usR th τ) (ptR ef τ) (reR τ) ta tp tq 5 (some 0) (stR τ C) := by
  rw [h.st]
  exact fit_cg h.ag (ht := ht) h.2.2.2.2.2.2.2.2.1 5 (some 0) (fun k q => by cases q; exact hc0) _ (st16 τ C)
theorem Rel.twins (h : Rel σ τ th ef se C m c0 ta tp tq ht) :
    (List.range 256).find? (twP (stS σ) (lkS σ (fun a u => i2n (nxS σ a u)) 3 (stS σ) (fun j => j) (fillN (apS σ) (fun _ => 0) 16)))
      = (List.range 256).find? (twP (stR τ C) (twF (usR th τ) (fun a => tiI (se a)) (fun a u => i2n (nxN τ.2 a u (ef a))) (stR τ C) 729 (fillN (τ.2 32) (fun _ => 0) 16))) := by
  rw [h.st]
  refine twP_cg fun s r hs hr => ?_
  have hst : is16 (stR τ C) := st16 τ C
  have hl := bt_lkA (us := usS σ) (sn := snS σ) (y := fun a u => i2n (nxS σ a u)) (b := stR τ C) (af := afS σ) (fun a ha x hx hu => ?_) (fun a ha j hj => (h.yS a ha j hj).2) 3 (fun j => j) (fun j hj => hj) (fillN (apS σ) (fun _ => 0) 16) hs hr
  · rw [img_id hst] at hl
    show bt (lkA (usS σ) (afS σ) (snS σ) (fun a u => i2n (nxS σ a u)) 3 (stR τ C) (fun j => j) (fillN (apS σ) (fun _ => 0) 16) s) r = _
    rw [hl, bt_twF _ hs hr, fillN_lt _ _ hs, fillN_lt _ _ hs, rows_lkv]
    congr 1
    refine lkv_cg (fun a ha c hc => h.us ha hc) (fun a ha c hu => ?_) (fun a ha j hj => (h.yS a ha j hj).2) 3 (fun j => j) (fun j hj => hj) hs hr
    by_cases hth : th a = true
    · exact h.nxa ha hth
    · exfalso
      have h9 := (h.2.1 a ha).1
      rw [show th a = false by cases hq : th a; rfl; exact absurd hq hth] at h9
      unfold usS at hu
      rw [h9] at hu
      rw [Bool.and_eq_true] at hu
      exact absurd hu.1 (by decide)
  · exact img_img (y := fun u => i2n (nxS σ a u)) (fun j hj => h.yS a ha j hj) hx (stR τ C)
end STEP2
