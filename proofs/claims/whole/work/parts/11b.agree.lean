/-! ===== each call: the class and the reference answer alike ===== -/
theorem wi_t {x lo hi : Int32} : wiB x lo hi = true ↔ lo.toInt ≤ x.toInt ∧ x.toInt ≤ hi.toInt := by
  unfold wiB
  rw [Bool.and_eq_true, decide_eq_true_iff, decide_eq_true_iff, Int32.le_iff_toInt_le, Int32.le_iff_toInt_le]
theorem wi_f {x lo hi : Int32} (h : ¬ wiB x lo hi = true) : x.toInt < lo.toInt ∨ hi.toInt < x.toInt := by
  rw [wi_t] at h
  omega
theorem bf {b : Bool} (h : ¬ b = true) : b = false := by cases b; rfl; exact absurd rfl h
theorem nat_of {x : Int32} {n : Nat} (hn : n < 2 ^ 31) (h : wiB x 0 (nI n) = true) : ∃ k, k ≤ n ∧ x = nI k := by
  rw [wi_t, nI_toInt hn] at h
  have h0 : (0 : Int32).toInt = 0 := rfl
  exact nI_of2 (M := nI n) (nI_toInt hn) (by rw [Int32.lt_iff_toInt_lt]; omega) (by rw [Int32.le_iff_toInt_le, nI_toInt hn]; exact h.2)
theorem num_of {x : Int32} (h : wiB x 0 7 = true) : ∃ k, k < 8 ∧ x = nI k := by
  obtain ⟨k, h1, h2⟩ := nat_of (n := 7) (by decide) h
  exact ⟨k, by omega, h2⟩
theorem num_bad {x : Int32} (h : ¬ wiB x 0 7 = true) : x < 0 ∨ ¬ x < 8 := by
  have h9 := wi_f h
  rw [Int32.lt_iff_toInt_lt, Int32.lt_iff_toInt_lt]
  have e0 : (0 : Int32).toInt = 0 := rfl
  have e7 : (7 : Int32).toInt = 7 := rfl
  have e8 : (8 : Int32).toInt = 8 := rfl
  omega
theorem num_ok {x : Int32} (h : wiB x 0 7 = true) : okNum x := by
  have h9 := wi_t.mp h
  unfold okNum
  rw [Int32.lt_iff_toInt_lt, Int32.lt_iff_toInt_lt]
  have e0 : (0 : Int32).toInt = 0 := rfl
  have e7 : (7 : Int32).toInt = 7 := rfl
  have e8 : (8 : Int32).toInt = 8 := rfl
  omega
theorem bits_iff {x z : Int32} : okBits x z ↔ dmB x z = true := by
  unfold okBits dmB
  rw [Bool.and_eq_true, wi_t, wi_t, Int32.lt_iff_toInt_lt, Int32.lt_iff_toInt_lt, Int32.le_iff_toInt_le, Int32.le_iff_toInt_le]
  have e0 : (0 : Int32).toInt = 0 := rfl
  omega
theorem dep_iff {x : Int32} : okDepth x ↔ wiB x 0 4 = true := by
  unfold okDepth
  rw [wi_t, Int32.lt_iff_toInt_lt, Int32.le_iff_toInt_le]
  have e0 : (0 : Int32).toInt = 0 := rfl
  omega
theorem rng_ok {x lo hi : Int32} (h : wiB x lo hi = true) : ¬ x < lo ∧ x ≤ hi := by
  rw [wi_t] at h
  rw [Int32.lt_iff_toInt_lt, Int32.le_iff_toInt_le]
  omega
theorem rng_bad {x lo hi : Int32} (h : ¬ wiB x lo hi = true) : x < lo ∨ ¬ x ≤ hi := by
  have h9 := wi_f h
  rw [Int32.lt_iff_toInt_lt, Int32.le_iff_toInt_le]
  omega
theorem up_ok {x lo hi hi1 : Int32} (h1 : hi1.toInt = hi.toInt + 1) (h : wiB x lo hi = true) : ¬ x < lo ∧ x < hi1 := by
  rw [wi_t] at h
  rw [Int32.lt_iff_toInt_lt, Int32.lt_iff_toInt_lt]
  omega
theorem up_bad {x lo hi hi1 : Int32} (h1 : hi1.toInt = hi.toInt + 1) (h : ¬ wiB x lo hi = true) : x < lo ∨ ¬ x < hi1 := by
  have h9 := wi_f h
  rw [Int32.lt_iff_toInt_lt, Int32.lt_iff_toInt_lt]
  omega
theorem sense_of {x : Int32} (h : wiB x (-1) 3 = true) : ∃ o : Option Nat, (∀ j, o = some j → j < 4) ∧ x = o2i o := by
  by_cases hx : x = -1
  · exact ⟨none, (fun j q => by cases q), hx⟩
  · have h9 := wi_t.mp h
    have e1 : (-1 : Int32).toInt = -1 := rfl
    have e0 : (0 : Int32).toInt = 0 := rfl
    have e3 : (3 : Int32).toInt = 3 := rfl
    have hne : ¬ x.toInt = -1 := fun q => hx (Int32.toInt_inj.mp (q.trans e1.symm))
    obtain ⟨k, k1, k2⟩ := nat_of (x := x) (n := 3) (by decide) (wi_t.mpr (by show (0 : Int32).toInt ≤ _ ∧ _ ≤ (3 : Int32).toInt; omega))
    exact ⟨some k, (fun j q => by cases q; omega), k2⟩
/-- numbers below a count -/
theorem cnt_of {x : Int32} {n : Nat} (hn : n ≤ 31) : (wiB x 0 (nI n - 1) = true → ∃ i, i < n ∧ x = nI i) ∧ (wiB x 0 (nI n - 1) = true ↔ (¬ x < 0 ∧ x < nI n)) := by
  have e0 : (0 : Int32).toInt = 0 := rfl
  have e1 : (nI n - 1).toInt = (n : Int) - 1 := by
    cases n with
    | zero => rfl
    | succ k => rw [nI_pred, nI_toInt (by omega)]; omega
  have h2 : wiB x 0 (nI n - 1) = true ↔ (¬ x < 0 ∧ x < nI n) := by
    rw [wi_t, e0, e1, Int32.lt_iff_toInt_lt, Int32.lt_iff_toInt_lt, e0, nI_toInt (by omega)]
    omega
  refine ⟨fun h => ?_, h2⟩
  obtain ⟨a1, a2⟩ := h2.mp h
  obtain ⟨j, j1, j2⟩ := nI_of a1
  rw [j2] at a2
  exact ⟨j, (nI_ltI j1 (by omega)).mp a2, j2⟩
section AGR
variable {l : Launch} {dC : Nat → ClassId} {dI : Nat → Nat → Nat} {A AB : Nat → Nat} {cI cQ cZ : ClassId} {σ : HS} {τ : MS} {th : Nat → Bool} {ef : Nat → Nat} {se : Nat → Option Nat} {C m c0 : Nat} {ta tp tq : Nat → Option Nat} {ht : Nat → Nat}
theorem Rel.E (h : Rel σ τ th ef se C m c0 ta tp tq ht) : RelE σ τ := ⟨_, _, _, _, _, _, _, _, _, _, h⟩
theorem Rel.thr (h : Rel σ τ th ef se C m c0 ta tp tq ht) (x : Int32) : RelE σ (va_up τ.1 0 x, τ.2) := (h.sim (τ' := (va_up τ.1 0 x, τ.2)) (fun k hk => vup_ne hk) (fun k _ => rfl)).E
theorem Rel.thr3 (h : Rel σ τ th ef se C m c0 ta tp tq ht) (x : Int32) (a b c : Nat → Int32) : RelE σ (va_up τ.1 0 x, va_up (va_up (va_up τ.2 19 a) 20 b) 21 c) := (h.sim (τ' := (va_up τ.1 0 x, va_up (va_up (va_up τ.2 19 a) 20 b) 21 c)) (fun k hk => vup_ne hk) (fun k hk => by show va_up (va_up (va_up τ.2 19 a) 20 b) 21 c k = _; rw [vup_ne (by omega), vup_ne (by omega), vup_ne (by omega)])).E
theorem Rel.thr2 (h : Rel σ τ th ef se C m c0 ta tp tq ht) (x : Int32) {i j : Nat} (hi : 19 ≤ i ∧ ¬ i = 30) (hj : 19 ≤ j ∧ ¬ j = 30) (a b : Nat → Int32) : RelE σ (va_up τ.1 0 x, va_up (va_up τ.2 i a) j b) := (h.sim (τ' := (va_up τ.1 0 x, va_up (va_up τ.2 i a) j b)) (fun k hk => vup_ne hk) (fun k hk => by show va_up (va_up τ.2 i a) j b k = _; rw [vup_ne (by omega), vup_ne (by omega)])).E
theorem RelE.sight {σ : HS} {τ : MS} (h : RelE σ τ) (z : Int32 × (Nat → Int32) × (Nat → Int32)) : RelE (σ.1, σ.2.1, z, σ.2.2.2) τ := by
  obtain ⟨th, ef, se, C, m, c0, ta, tp, tq, ht, h⟩ := h
  exact ⟨th, ef, se, C, m, c0, ta, tp, tq, ht, h⟩
theorem Rel.noact (h : Rel σ τ th ef se C m c0 ta tp tq ht) {a : Nat} (ha : a < 8) (q : th a = false) : acS σ a 0 = 0 := by rw [(h.2.1 a ha).1, q]; rfl
theorem Rel.isact (h : Rel σ τ th ef se C m c0 ta tp tq ht) {a : Nat} (ha : a < 8) (q : th a = true) : ¬ acS σ a 0 = 0 := by rw [(h.2.1 a ha).1, q]; decide
theorem Rel.c31 (h : Rel σ τ th ef se C m c0 ta tp tq ht) : c0 ≤ 31 := h.2.2.2.2.2.2.2.2.1.1
theorem a_action (h : Rel σ τ th ef se C m c0 ta tp tq ht) (hlt : l.stackTraces = false) (x mm vv sn : Int32) : Agr l dC dI A AB cI cQ cZ σ τ yX3_action wsX3_action yX4_action wsX4_action [.int x, .int mm, .int vv, .int sn] [nIO, nIA] := by
  by_cases q1 : wiB x 0 7 = true
  · by_cases q2 : dmB mm vv = true
    · by_cases q3 : wiB sn (-1) 3 = true
      · obtain ⟨a, ha, rfl⟩ := num_of q1
        obtain ⟨o, ho, rfl⟩ := sense_of q3
        exact ⟨none, _, _, _, _, CRes.writeX (fun sz => o_X3_action l dC dI A cI cQ σ sz ha mm vv o ho (th a) (bits_iff.mpr q2) (h.2.1 a ha).1), fun sz => m_action0 l dC dI AB cI cZ τ sz h.hM ha mm vv (o2i o) q2 q3, Or.inl ⟨rfl, rfl, fun σ' τ' e1 e2 => by subst e1; subst e2; exact ⟨rfl, (h.action ha mm vv o ho).E⟩⟩⟩
      · exact ⟨_, 0, _, _, _, CRes.throw fun sz => x_X3_action_IA2 l dC dI A cI cQ σ hlt sz x mm vv sn (num_ok q1) (bits_iff.mpr q2) (up_bad (hi := 3) rfl q3), fun sz => m_action2 l dC dI AB cI cZ τ sz x mm vv sn q1 (by rw [q2, bf q3]; rfl), Or.inr ⟨1, by decide, rfl, fun σ' τ' e1 e2 => by subst e1; subst e2; exact ⟨rfl, h.thr _⟩⟩⟩
    · exact ⟨_, 0, _, _, _, CRes.throw fun sz => x_X3_action_IA1 l dC dI A cI cQ σ hlt sz x mm vv sn (num_ok q1) (fun z => q2 (bits_iff.mp z)), fun sz => m_action2 l dC dI AB cI cZ τ sz x mm vv sn q1 (by rw [bf q2]; rfl), Or.inr ⟨1, by decide, rfl, fun σ' τ' e1 e2 => by subst e1; subst e2; exact ⟨rfl, h.thr _⟩⟩⟩
  · exact ⟨_, 0, _, _, _, CRes.throw fun sz => x_X3_action_IO l dC dI A cI cQ σ hlt sz x mm vv sn (num_bad q1), fun sz => m_action1 l dC dI AB cI cZ τ sz x mm vv sn (bf q1), Or.inr ⟨0, by decide, rfl, fun σ' τ' e1 e2 => by subst e1; subst e2; exact ⟨rfl, h.thr _⟩⟩⟩
theorem a_effect (h : Rel σ τ th ef se C m c0 ta tp tq ht) (hlt : l.stackTraces = false) (x f : Int32) (mk1 : Bool) (mm vv : Int32) : Agr l dC dI A AB cI cQ cZ σ τ yX3_effect wsX3_effect yX4_effect wsX4_effect [.int x, .int f, .int (b2i mk1), .int mm, .int vv] [nIO, nNS, nIA, nIS] := by
  by_cases q1 : wiB x 0 7 = true
  · obtain ⟨a, ha, rfl⟩ := num_of q1
    by_cases q2 : th a = true
    · by_cases q3 : dmB mm vv = true
      · by_cases q4 : wiB f 0 3 = true
        · by_cases q5 : ef a < 4
          · obtain ⟨f, hf, rfl⟩ := nat_of (n := 3) (by decide) q4
            have e3 := ((h.2.1 a ha).2.2.2 q2).2.2.1
            exact ⟨none, _, _, _, _, CRes.write (fun sz => o_X3_effect l dC dI A cI cQ σ sz ha (show f < 4 by omega) mk1 mm vv (h.isact ha q2) (bits_iff.mpr q3) (by rw [e3]; exact nI_lt (b := 4) q5 (by decide))), fun sz => m_effect0 l dC dI AB cI cZ τ sz h.hM ha (nI f) mk1 mm vv q2 q3 q4 q5, Or.inl ⟨rfl, (by rw [e3]; exact (nI_1 (ef a)).symm), fun σ' τ' e1 e2 => by subst e1; subst e2; exact ⟨rfl, (h.effect ha q2 (show f < 4 by omega) mk1 mm vv q5).E⟩⟩⟩
          · have e3 := ((h.2.1 a ha).2.2.2 q2).2.2.1
            have e4 : ef a = 4 := by have := (h.1.1 a ha).2.2; omega
            exact ⟨_, 0, _, _, _, CRes.throw fun sz => x_X3_effect_IS l dC dI A cI cQ σ hlt sz ha f mk1 mm vv (h.isact ha q2) (bits_iff.mpr q3) (up_ok (hi := 3) rfl q4) (by rw [e3, e4]; decide), fun sz => m_effect4 l dC dI AB cI cZ τ sz h.hM ha f mk1 mm vv q2 q3 q4 e4, Or.inr ⟨3, by decide, rfl, fun σ' τ' e1 e2 => by subst e1; subst e2; exact ⟨rfl, h.thr _⟩⟩⟩
        · exact ⟨_, 0, _, _, _, CRes.throw fun sz => x_X3_effect_IA2 l dC dI A cI cQ σ hlt sz ha f mk1 mm vv (h.isact ha q2) (bits_iff.mpr q3) (up_bad (hi := 3) rfl q4), fun sz => m_effect3 l dC dI AB cI cZ τ sz h.hM ha f mk1 mm vv q2 (by rw [q3, bf q4]; rfl), Or.inr ⟨2, by decide, rfl, fun σ' τ' e1 e2 => by subst e1; subst e2; exact ⟨rfl, h.thr _⟩⟩⟩
      · exact ⟨_, 0, _, _, _, CRes.throw fun sz => x_X3_effect_IA1 l dC dI A cI cQ σ hlt sz ha f mk1 mm vv (h.isact ha q2) (fun z => q3 (bits_iff.mp z)), fun sz => m_effect3 l dC dI AB cI cZ τ sz h.hM ha f mk1 mm vv q2 (by rw [bf q3]; rfl), Or.inr ⟨2, by decide, rfl, fun σ' τ' e1 e2 => by subst e1; subst e2; exact ⟨rfl, h.thr _⟩⟩⟩
    · exact ⟨_, 0, _, _, _, CRes.throw fun sz => x_X3_effect_NS l dC dI A cI cQ σ hlt sz ha f mk1 mm vv (h.noact ha (bf q2)), fun sz => m_effect2 l dC dI AB cI cZ τ sz h.hM ha f mk1 mm vv (bf q2), Or.inr ⟨1, by decide, rfl, fun σ' τ' e1 e2 => by subst e1; subst e2; exact ⟨rfl, h.thr _⟩⟩⟩
  · exact ⟨_, 0, _, _, _, CRes.throw fun sz => x_X3_effect_IO l dC dI A cI cQ σ hlt sz x f mk1 mm vv (num_bad q1), fun sz => m_effect1 l dC dI AB cI cZ τ sz x f mk1 mm vv (bf q1), Or.inr ⟨0, by decide, rfl, fun σ' τ' e1 e2 => by subst e1; subst e2; exact ⟨rfl, h.thr _⟩⟩⟩
theorem a_clause (h : Rel σ τ th ef se C m c0 ta tp tq ht) (hlt : l.stackTraces = false) (mm vv : Int32) : Agr l dC dI A AB cI cQ cZ σ τ yX3_clause wsX3_clause yX4_clause wsX4_clause [.int mm, .int vv] [nIA, nIS] := by
  obtain ⟨e1, e2, e3, e4⟩ := h.2.2.1
  by_cases q1 : dmB mm vv = true
  · by_cases q2 : C < 6
    · exact ⟨none, _, _, _, _, CRes.write (fun sz => o_X3_clause l dC dI A cI cQ σ sz mm vv (bits_iff.mpr q1) (by rw [e1]; exact nI_lt (b := 6) q2 (by decide))), fun sz => m_clause0 l dC dI AB cI cZ τ sz mm vv q1 e2 q2, Or.inl ⟨rfl, (by rw [e1]; exact (nI_1 C).symm), fun σ' τ' e1 e2 => by subst e1; subst e2; exact ⟨rfl, (h.clause mm vv q2).E⟩⟩⟩
    · have e6 : C = 6 := by omega
      exact ⟨_, 0, _, _, _, CRes.throw fun sz => x_X3_clause_IS l dC dI A cI cQ σ hlt sz mm vv (bits_iff.mpr q1) (by rw [e1, e6]; decide), fun sz => m_clause2 l dC dI AB cI cZ τ sz mm vv q1 (by rw [e2, e6]; rfl), Or.inr ⟨1, by decide, rfl, fun σ' τ' e1 e2 => by subst e1; subst e2; exact ⟨rfl, h.thr _⟩⟩⟩
  · exact ⟨_, 0, _, _, _, CRes.throw fun sz => x_X3_clause_IA l dC dI A cI cQ σ hlt sz mm vv (fun z => q1 (bits_iff.mp z)), fun sz => m_clause1 l dC dI AB cI cZ τ sz mm vv (bf q1), Or.inr ⟨0, by decide, rfl, fun σ' τ' e1 e2 => by subst e1; subst e2; exact ⟨rfl, h.thr _⟩⟩⟩
theorem a_goal (h : Rel σ τ th ef se C m c0 ta tp tq ht) (hlt : l.stackTraces = false) (mm vv : Int32) : Agr l dC dI A AB cI cQ cZ σ τ yX3_goal wsX3_goal yX4_goal wsX4_goal [.int mm, .int vv] [nIA] := by
  by_cases q1 : dmB mm vv = true
  · have q2 := q1
    unfold dmB at q2
    rw [Bool.and_eq_true] at q2
    obtain ⟨i, hi, rfl⟩ := nat_of (n := 15) (by decide) q2.1
    obtain ⟨j, hj, rfl⟩ := nat_of (n := 15) (by decide) q2.2
    exact ⟨none, _, _, _, _, CRes.write (fun sz => o_X3_goal l dC dI A cI cQ σ sz (nI i) (nI j) (bits_iff.mpr q1)), fun sz => m_goal0 l dC dI AB cI cZ τ sz (nI i) (nI j) q1, Or.inl ⟨rfl, (bc_cn i (by omega) j (by omega)).symm, fun σ' τ' e1 e2 => by subst e1; subst e2; exact ⟨rfl, (h.goal (nI i) (nI j)).E⟩⟩⟩
  · exact ⟨_, 0, _, _, _, CRes.throw fun sz => x_X3_goal_IA l dC dI A cI cQ σ hlt sz mm vv (fun z => q1 (bits_iff.mp z)), fun sz => m_goal1 l dC dI AB cI cZ τ sz mm vv (bf q1), Or.inr ⟨0, by decide, rfl, fun σ' τ' e1 e2 => by subst e1; subst e2; exact ⟨rfl, h.thr _⟩⟩⟩
theorem a_behind (h : Rel σ τ th ef se C m c0 ta tp tq ht) (hlt : l.stackTraces = false) (x b : Int32) : Agr l dC dI A AB cI cQ cZ σ τ yX3_behind wsX3_behind yX4_behind wsX4_behind [.int x, .int b] [nIO, nNS, nIA, nUO] := by
  by_cases q1 : wiB x 0 7 = true
  · obtain ⟨a, ha, rfl⟩ := num_of q1
    by_cases q2 : th a = true
    · by_cases q3 : wiB b 0 65535 = true
      · have hb : is16 b := is16_rng (rng_ok q3).1 (by rw [Int32.not_lt]; exact (rng_ok q3).2)
        by_cases q4 : usR th τ a b = true
        · exact ⟨none, _, _, _, _, CRes.read (o_X3_behind l dC dI A cI cQ σ ha b (h.isact ha q2) (rng_ok q3) ((h.us ha hb).trans q4)), fun sz => m_behind0 l dC dI AB cI cZ τ sz h.hM ha b q2 q3 q4, Or.inl ⟨rfl, (h.af ha q2 b).symm, fun σ' τ' e1 e2 => by subst e1; subst e2; exact ⟨rfl, h.thr _⟩⟩⟩
        · exact ⟨_, 0, _, _, _, CRes.throw fun sz => x_X3_behind_UO l dC dI A cI cQ σ hlt sz ha b (h.isact ha q2) (rng_ok q3) ((h.us ha hb).trans (bf q4)), fun sz => m_behind4 l dC dI AB cI cZ τ sz h.hM ha b q2 q3 (bf q4), Or.inr ⟨3, by decide, rfl, fun σ' τ' e1 e2 => by subst e1; subst e2; exact ⟨rfl, h.thr _⟩⟩⟩
      · exact ⟨_, 0, _, _, _, CRes.throw fun sz => x_X3_behind_IA l dC dI A cI cQ σ hlt sz ha b (h.isact ha q2) (rng_bad q3), fun sz => m_behind3 l dC dI AB cI cZ τ sz h.hM ha b q2 (bf q3), Or.inr ⟨2, by decide, rfl, fun σ' τ' e1 e2 => by subst e1; subst e2; exact ⟨rfl, h.thr _⟩⟩⟩
    · exact ⟨_, 0, _, _, _, CRes.throw fun sz => x_X3_behind_NS l dC dI A cI cQ σ hlt sz ha b (h.noact ha (bf q2)), fun sz => m_behind2 l dC dI AB cI cZ τ sz h.hM ha b (bf q2), Or.inr ⟨1, by decide, rfl, fun σ' τ' e1 e2 => by subst e1; subst e2; exact ⟨rfl, h.thr _⟩⟩⟩
  · exact ⟨_, 0, _, _, _, CRes.throw fun sz => x_X3_behind_IO l dC dI A cI cQ σ hlt sz x b (num_bad q1), fun sz => m_behind1 l dC dI AB cI cZ τ sz x b (bf q1), Or.inr ⟨0, by decide, rfl, fun σ' τ' e1 e2 => by subst e1; subst e2; exact ⟨rfl, h.thr _⟩⟩⟩
theorem a_least (h : Rel σ τ th ef se C m c0 ta tp tq ht) (hlt : l.stackTraces = false) (b x : Int32) : Agr l dC dI A AB cI cQ cZ σ τ yX3_least wsX3_least yX4_least wsX4_least [.int b, .int x] [nIA, nNS] := by
  by_cases q1 : wiB b 1 65535 = true
  · by_cases q2 : wiB x 0 4 = true
    · obtain ⟨q, hq, rfl⟩ := nat_of (n := 4) (by decide) q2
      have hb : is16 b := is16_rng (by have := wi_t.mp q1; have e1 : (1 : Int32).toInt = 1 := rfl; have e0 : (0 : Int32).toInt = 0 := rfl; rw [Int32.lt_iff_toInt_lt]; omega) (by rw [Int32.not_lt]; exact (rng_ok q1).2)
      cases q3 : few (usR th τ) (ptR ef τ) (reR τ) b q with
      | some n =>
        exact ⟨none, _, _, _, _, CRes.read (o_X3_least l dC dI A cI cQ σ b hq (rng_ok q1) ((h.few hb q).trans q3)), fun sz => m_least0 l dC dI AB cI cZ τ sz h.hM b hq q1 q3, Or.inl ⟨rfl, rfl, fun σ' τ' e1 e2 => by obtain ⟨x1, x2, x3, e2⟩ := e2; subst e1; subst e2; exact ⟨rfl, h.thr3 _ _ _ _⟩⟩⟩
      | none =>
        exact ⟨_, 0, _, _, _, CRes.throw fun sz => x_X3_least_NS l dC dI A cI cQ σ hlt sz b hq (rng_ok q1) ((h.few hb q).trans q3), fun sz => m_least2 l dC dI AB cI cZ τ sz h.hM b hq q1 q3, Or.inr ⟨1, by decide, rfl, fun σ' τ' e1 e2 => by obtain ⟨x1, x2, x3, e2⟩ := e2; subst e1; subst e2; exact ⟨rfl, h.thr3 _ _ _ _⟩⟩⟩
    · exact ⟨_, 0, _, _, _, CRes.throw fun sz => x_X3_least_IA2 l dC dI A cI cQ σ hlt sz b x (rng_ok q1) (fun z => q2 (dep_iff.mp z)), fun sz => m_least1 l dC dI AB cI cZ τ sz b x (by rw [q1, bf q2]; rfl), Or.inr ⟨0, by decide, rfl, fun σ' τ' e1 e2 => by subst e1; subst e2; exact ⟨rfl, h.thr _⟩⟩⟩
  · exact ⟨_, 0, _, _, _, CRes.throw fun sz => x_X3_least_IA1 l dC dI A cI cQ σ hlt sz b x (rng_bad q1), fun sz => m_least1 l dC dI AB cI cZ τ sz b x (by rw [bf q1]; rfl), Or.inr ⟨0, by decide, rfl, fun σ' τ' e1 e2 => by subst e1; subst e2; exact ⟨rfl, h.thr _⟩⟩⟩
theorem a_plan (h : Rel σ τ th ef se C m c0 ta tp tq ht) (hlt : l.stackTraces = false) (x : Int32) : Agr l dC dI A AB cI cQ cZ σ τ yX3_plan wsX3_plan yX4_plan wsX4_plan [.int x] [nIA, nIS, nNS] := by
  obtain ⟨-, hC, hC6, -⟩ := h.2.2.1
  by_cases q2 : wiB x 0 4 = true
  · obtain ⟨q, hq, rfl⟩ := nat_of (n := 4) (by decide) q2
    by_cases q1 : stR τ C = 0
    · exact ⟨_, 0, _, _, _, CRes.throw fun sz => x_X3_plan_IS l dC dI A cI cQ σ hlt sz hq (by rw [h.st]; exact q1), fun sz => m_plan2 l dC dI AB cI cZ τ sz h.hM hC hC6 hq q1, Or.inr ⟨1, by decide, rfl, fun σ' τ' e1 e2 => by subst e1; subst e2; exact ⟨rfl, h.thr _⟩⟩⟩
    · have q0 : ¬ stS σ = 0 := by rw [h.st]; exact q1
      cases q3 : few (usR th τ) (ptR ef τ) (reR τ) (stR τ C) q with
      | some n =>
        exact ⟨none, _, _, _, _, CRes.write (fun sz => o_X3_plan l dC dI A cI cQ σ sz hq q0 (by rw [h.few (by rw [h.st]; exact st16 τ C), h.st]; exact q3)), fun sz => m_plan0 l dC dI AB cI cZ τ sz h.hM hC hC6 hq q1 q3 h.p16, Or.inl ⟨rfl, rfl, fun σ' τ' e1 e2 => by
          subst e1
          obtain ⟨c1, ta1, tp1, tq1, ht1, r⟩ := h.plan (Nat.le_trans (few_lt q3) hq) q0 e2
          exact ⟨by obtain ⟨_, _, _, _, _, _, _, _, _, e3, _⟩ := e2; rw [e3]; rfl, r.E⟩⟩⟩
      | none =>
        exact ⟨_, 0, _, _, _, CRes.throw fun sz => x_X3_plan_NS l dC dI A cI cQ σ hlt sz hq q0 (by rw [h.few (by rw [h.st]; exact st16 τ C), h.st]; exact q3), fun sz => m_plan3 l dC dI AB cI cZ τ sz h.hM hC hC6 hq q1 q3, Or.inr ⟨2, by decide, rfl, fun σ' τ' e1 e2 => by obtain ⟨x1, x2, x3, e2⟩ := e2; subst e1; subst e2; exact ⟨rfl, h.thr3 _ _ _ _⟩⟩⟩
  · exact ⟨_, 0, _, _, _, CRes.throw fun sz => x_X3_plan_IA l dC dI A cI cQ σ hlt sz x (fun z => q2 (dep_iff.mp z)), fun sz => m_plan1 l dC dI AB cI cZ τ sz x (bf q2), Or.inr ⟨0, by decide, rfl, fun σ' τ' e1 e2 => by subst e1; subst e2; exact ⟨rfl, h.thr _⟩⟩⟩
theorem a_node (h : Rel σ τ th ef se C m c0 ta tp tq ht) (hlt : l.stackTraces = false) (i x : Int32) : Agr l dC dI A AB cI cQ cZ σ τ yX3_node wsX3_node yX4_node wsX4_node [.int i, .int x] [nIO] := by
  obtain ⟨e1, e2, -, e3, e4⟩ := h.2.2.2.2.2.2
  have hn : (wiB i 0 (τ.1 15 - 1) = true → ∃ k, k < c0 ∧ i = nI k) ∧ (wiB i 0 (τ.1 15 - 1) = true ↔ (¬ i < 0 ∧ i < ctS σ)) := by rw [e2, e1]; exact cnt_of h.c31
  by_cases q1 : wiB i 0 (τ.1 15 - 1) = true
  · by_cases q2 : wiB x 0 2 = true
    · obtain ⟨k, hk, rfl⟩ := hn.1 q1
      obtain ⟨j, hj, rfl⟩ := nat_of (n := 2) (by decide) q2
      have hk31 : k < 31 := by have := h.c31; omega
      obtain ⟨f1, f2, f3, _⟩ := e3.2 k hk
      obtain ⟨g1, g2, g3⟩ := e4 k hk
      obtain rfl | rfl | rfl : j = 0 ∨ j = 1 ∨ j = 2 := by omega
      · exact ⟨none, _, _, _, _, CRes.read (o_X3_node l dC dI A cI cQ σ (i := k) (j := 0) hk31 (by decide) (hn.2.mp q1)), fun sz => m_node0a l dC dI AB cI cZ τ sz (i := k) hk31 q1, Or.inl ⟨rfl, (g1.trans f1.symm), fun σ' τ' e1 e2 => by subst e1; subst e2; exact ⟨rfl, h.thr _⟩⟩⟩
      · exact ⟨none, _, _, _, _, CRes.read (o_X3_node l dC dI A cI cQ σ (i := k) (j := 1) hk31 (by decide) (hn.2.mp q1)), fun sz => m_node0b l dC dI AB cI cZ τ sz (i := k) hk31 q1, Or.inl ⟨rfl, (g2.trans f2.symm), fun σ' τ' e1 e2 => by subst e1; subst e2; exact ⟨rfl, h.thr _⟩⟩⟩
      · exact ⟨none, _, _, _, _, CRes.read (o_X3_node l dC dI A cI cQ σ (i := k) (j := 2) hk31 (by decide) (hn.2.mp q1)), fun sz => m_node0c l dC dI AB cI cZ τ sz (i := k) hk31 q1, Or.inl ⟨rfl, (g3.trans f3.symm), fun σ' τ' e1 e2 => by subst e1; subst e2; exact ⟨rfl, h.thr _⟩⟩⟩
    · exact ⟨_, 0, _, _, _, CRes.throw fun sz => x_X3_node_IO2 l dC dI A cI cQ σ hlt sz i x (hn.2.mp q1) (up_bad (hi := 2) rfl q2), fun sz => m_node1 l dC dI AB cI cZ τ sz i x (by rw [bf q2, Bool.and_false]), Or.inr ⟨0, by decide, rfl, fun σ' τ' e1 e2 => by subst e1; subst e2; exact ⟨rfl, h.thr _⟩⟩⟩
  · exact ⟨_, 0, _, _, _, CRes.throw fun sz => x_X3_node_IO1 l dC dI A cI cQ σ hlt sz i x (fun z => q1 (hn.2.mpr z)), fun sz => m_node1 l dC dI AB cI cZ τ sz i x (by rw [bf q1, Bool.false_and]), Or.inr ⟨0, by decide, rfl, fun σ' τ' e1 e2 => by subst e1; subst e2; exact ⟨rfl, h.thr _⟩⟩⟩
theorem a_edit (h : Rel σ τ th ef se C m c0 ta tp tq ht) (hlt : l.stackTraces = false) (i x : Int32) : Agr l dC dI A AB cI cQ cZ σ τ yX3_edit wsX3_edit yX4_edit wsX4_edit [.int i, .int x] [nIO, nNS, nUO] := by
  obtain ⟨e1, e2, -, e3, e4⟩ := h.2.2.2.2.2.2
  have hn : (wiB i 0 (τ.1 15 - 1) = true → ∃ k, k < c0 ∧ i = nI k) ∧ (wiB i 0 (τ.1 15 - 1) = true ↔ (¬ i < 0 ∧ i < ctS σ)) := by rw [e2, e1]; exact cnt_of h.c31
  by_cases q1 : wiB i 0 (τ.1 15 - 1) = true
  · by_cases q2 : wiB x 0 7 = true
    · obtain ⟨a, ha, rfl⟩ := num_of q2
      by_cases q3 : th a = true
      · obtain ⟨k, hk, rfl⟩ := hn.1 q1
        have hk31 : k < 31 := by have := h.c31; omega
        obtain ⟨f1, f2, f3, f4, _⟩ := e3.2 k hk
        obtain ⟨g1, g2, g3⟩ := e4 k hk
        cases q4 : ta k with
        | none =>
          rw [q4] at f1 g1
          exact ⟨_, 0, _, _, _, CRes.throw fun sz => x_X3_edit_UO l dC dI A cI cQ σ hlt sz (i := k) hk31 ha (hn.2.mp q1) (h.isact ha q3) f1, fun sz => m_edit3 l dC dI AB cI cZ τ sz h.hM ha (i := k) hk31 q1 q3 (by rw [g1]; decide), Or.inr ⟨2, by decide, rfl, fun σ' τ' e1 e2 => by subst e1; subst e2; exact ⟨rfl, h.thr _⟩⟩⟩
        | some y =>
          rw [q4] at f1 g1
          have hy := f4 y q4
          exact ⟨none, _, _, _, _, CRes.write (fun sz => o_X3_edit l dC dI A cI cQ σ sz (i := k) hk31 ha (hn.2.mp q1) (h.isact ha q3) (by rw [f1]; exact nI_n1 (by omega))), fun sz => m_edit0 l dC dI AB cI cZ τ sz h.hM ha (i := k) hk31 q1 q3 (by rw [g1]; exact Int32.not_lt.mpr (nI_nlt0 (by omega))), Or.inl ⟨rfl, (g1.trans f1.symm), fun σ' τ' e1 e2 => by subst e1; subst e2; exact ⟨rfl, (h.edit hk ha (by rw [q4]; exact Option.some_ne_none y)).E⟩⟩⟩
      · exact ⟨_, 0, _, _, _, CRes.throw fun sz => x_X3_edit_NS l dC dI A cI cQ σ hlt sz i ha (hn.2.mp q1) (h.noact ha (bf q3)), fun sz => m_edit2 l dC dI AB cI cZ τ sz h.hM ha i q1 (bf q3), Or.inr ⟨1, by decide, rfl, fun σ' τ' e1 e2 => by subst e1; subst e2; exact ⟨rfl, h.thr _⟩⟩⟩
    · exact ⟨_, 0, _, _, _, CRes.throw fun sz => x_X3_edit_IO2 l dC dI A cI cQ σ hlt sz i x (hn.2.mp q1) (num_bad q2), fun sz => m_edit1 l dC dI AB cI cZ τ sz i x (by rw [bf q2, Bool.and_false]), Or.inr ⟨0, by decide, rfl, fun σ' τ' e1 e2 => by subst e1; subst e2; exact ⟨rfl, h.thr _⟩⟩⟩
  · exact ⟨_, 0, _, _, _, CRes.throw fun sz => x_X3_edit_IO1 l dC dI A cI cQ σ hlt sz i x (fun z => q1 (hn.2.mpr z)), fun sz => m_edit1 l dC dI AB cI cZ τ sz i x (by rw [bf q1, Bool.false_and]), Or.inr ⟨0, by decide, rfl, fun σ' τ' e1 e2 => by subst e1; subst e2; exact ⟨rfl, h.thr _⟩⟩⟩
theorem a_right (h : Rel σ τ th ef se C m c0 ta tp tq ht) (hlt : l.stackTraces = false) : Agr l dC dI A AB cI cQ cZ σ τ yX3_right wsX3_right yX4_right wsX4_right [] [nIS] := by
  obtain ⟨e1, e2, e5, e3, e4⟩ := h.2.2.2.2.2.2
  obtain ⟨-, hC, hC6, -⟩ := h.2.2.1
  by_cases q1 : c0 = 0
  · exact ⟨_, 0, _, _, _, CRes.throw fun sz => x_X3_right_IS l dC dI A cI cQ σ hlt sz (by rw [e1, q1]; rfl), fun sz => m_right1 l dC dI AB cI cZ τ sz (by rw [e2, q1]; rfl), Or.inr ⟨0, by decide, rfl, fun σ' τ' e1 e2 => by subst e1; subst e2; exact ⟨rfl, h.thr _⟩⟩⟩
  · have z0 : ¬ nI c0 = 0 := fun z => q1 (nI_inj (b := 0) (by have := h.c31; omega) (by decide) z)
    exact ⟨none, _, _, _, _, CRes.read (o_X3_right l dC dI A cI cQ σ e3 (by omega) (by rw [e1]; exact z0)), fun sz => m_right0 l dC dI AB cI cZ τ sz h.hM hC hC6 e5 (by omega) e4 h.p16 (by rw [e2]; exact z0), Or.inl ⟨rfl, by rw [h.right (by omega)], fun σ' τ' e1 e2 => by obtain ⟨x1, x2, e2⟩ := e2; subst e1; subst e2; exact ⟨rfl, h.thr2 _ (by decide) (by decide) _ _⟩⟩⟩
theorem a_hide (h : Rel σ τ th ef se C m c0 ta tp tq ht) (hlt : l.stackTraces = false) (x : Int32) : Agr l dC dI A AB cI cQ cZ σ τ yX3_hide wsX3_hide yX4_hide wsX4_hide [.int x] [nIA] := by
  obtain ⟨-, hC, hC6, -⟩ := h.2.2.1
  by_cases q1 : wiB x 0 15 = true
  · obtain ⟨k, hk, rfl⟩ := nat_of (n := 15) (by decide) q1
    exact ⟨none, _, _, _, _, CRes.write (fun sz => o_X3_hide l dC dI A cI cQ σ sz (k := k) (by omega)), fun sz => m_hide0 l dC dI AB cI cZ τ sz hC hC6 (k := k) (by omega), Or.inl ⟨rfl, (by rw [h.st]), fun σ' τ' e1 e2 => by subst e1; subst e2; exact ⟨rfl, (h.hide (by omega)).E⟩⟩⟩
  · exact ⟨_, 0, _, _, _, CRes.throw fun sz => x_X3_hide_IA l dC dI A cI cQ σ hlt sz x (up_bad (hi := 15) rfl q1), fun sz => m_hide1 l dC dI AB cI cZ τ sz x (bf q1), Or.inr ⟨0, by decide, rfl, fun σ' τ' e1 e2 => by subst e1; subst e2; exact ⟨rfl, h.thr _⟩⟩⟩
theorem a_execute (h : Rel σ τ th ef se C m c0 ta tp tq ht) (hlt : l.stackTraces = false) : Agr l dC dI A AB cI cQ cZ σ τ yX3_execute wsX3_execute yX4_execute wsX4_execute [] [nIS] := by
  obtain ⟨e1, e2, e5, e3, e4⟩ := h.2.2.2.2.2.2
  obtain ⟨d1, d2⟩ := h.2.2.2.2.1
  by_cases q1 : c0 = 0
  · exact ⟨_, 0, _, _, _, CRes.throw fun sz => x_X3_execute_IS1 l dC dI A cI cQ σ hlt sz (by rw [e1, q1]; rfl), fun sz => m_execute1 l dC dI AB cI cZ τ sz (Or.inl (by rw [e2, q1]; rfl)), Or.inr ⟨0, by decide, rfl, fun σ' τ' e1 e2 => by subst e1; subst e2; exact ⟨rfl, h.thr _⟩⟩⟩
  · have z0 : ¬ nI c0 = 0 := fun z => q1 (nI_inj (b := 0) (by have := h.c31; omega) (by decide) z)
    rcases d2 with d2 | ⟨h0, h16, d2⟩
    · exact ⟨_, 0, _, _, _, CRes.throw fun sz => x_X3_execute_IS2 l dC dI A cI cQ σ hlt sz (by rw [e1]; exact z0) d2, fun sz => m_execute1 l dC dI AB cI cZ τ sz (Or.inr (d1.symm.trans d2)), Or.inr ⟨0, by decide, rfl, fun σ' τ' e1 e2 => by subst e1; subst e2; exact ⟨rfl, h.thr _⟩⟩⟩
    · exact ⟨none, _, _, _, _, CRes.write (fun sz => o_X3_execute l dC dI A cI cQ σ sz e3 (by omega) d2 h16 (fun a u => i2n (nxS σ a u)) h.yS (by rw [e1]; exact z0)), fun sz => m_execute0 l dC dI AB cI cZ τ sz h.hM e5 (by omega) e4 h.hse (y := fun a u => i2n (nxN τ.2 a u (ef a))) h.yR (h0 := h0) (d1.symm.trans d2) h16 (by rw [e2]; exact z0), Or.inl ⟨rfl, by rw [(h.cr h16 (by omega)).1], fun σ' τ' e1 e2 => by subst e1; subst e2; exact ⟨rfl, (h.execute h16 (by omega)).E⟩⟩⟩
theorem a_trace (h : Rel σ τ th ef se C m c0 ta tp tq ht) (hlt : l.stackTraces = false) (x : Int32) : Agr l dC dI A AB cI cQ cZ σ τ yX3_trace wsX3_trace yX4_trace wsX4_trace [.int x] [nIO] := by
  obtain ⟨e1, e2, e3, e4⟩ := h.2.2.2.2.2.1
  have hn : (wiB x 0 (τ.1 29 - 1) = true → ∃ k, k < m ∧ x = nI k) ∧ (wiB x 0 (τ.1 29 - 1) = true ↔ (¬ x < 0 ∧ x < maS σ)) := by rw [e2, e1]; exact cnt_of (by omega)
  by_cases q1 : wiB x 0 (τ.1 29 - 1) = true
  · obtain ⟨k, hk, rfl⟩ := hn.1 q1
    exact ⟨none, _, _, _, _, CRes.read (o_X3_trace l dC dI A cI cQ σ (k := k) (by omega) (hn.2.mp q1).2), fun sz => m_trace0 l dC dI AB cI cZ τ sz (k := k) (by omega) q1, Or.inl ⟨rfl, (e4 k hk).symm, fun σ' τ' e1 e2 => by subst e1; subst e2; exact ⟨rfl, h.thr _⟩⟩⟩
  · have q2 : x < 0 ∨ ¬ x < maS σ := by
      by_cases z : x < 0
      · exact Or.inl z
      · exact Or.inr fun y => q1 (hn.2.mpr ⟨z, y⟩)
    exact ⟨_, 0, _, _, _, CRes.throw fun sz => x_X3_trace_IO l dC dI A cI cQ σ hlt sz x q2, fun sz => m_trace1 l dC dI AB cI cZ τ sz x (bf q1), Or.inr ⟨0, by decide, rfl, fun σ' τ' e1 e2 => by subst e1; subst e2; exact ⟨rfl, h.thr _⟩⟩⟩
theorem a_twins (h : Rel σ τ th ef se C m c0 ta tp tq ht) (hlt : l.stackTraces = false) : Agr l dC dI A AB cI cQ cZ σ τ yX3_twins wsX3_twins yX4_twins wsX4_twins [] [nNS] := by
  obtain ⟨-, hC, hC6, -⟩ := h.2.2.1
  cases q1 : (List.range 256).find? (twP (stR τ C) (twF (usR th τ) (fun a => tiI (se a)) (fun a u => i2n (nxN τ.2 a u (ef a))) (stR τ C) 729 (fillN (τ.2 32) (fun _ => 0) 16))) with
  | some q2 =>
    exact ⟨none, _, _, _, _, CRes.write (fun sz => o_X3_twins l dC dI A cI cQ σ sz (fun a u => i2n (nxS σ a u)) h.yS (h.twins.trans q1)), fun sz => m_twins0 l dC dI AB cI cZ τ sz h.hM hC hC6 h.hse h.yR q1, Or.inl ⟨rfl, rfl, fun σ' τ' e1 e2 => by obtain ⟨x1, e1⟩ := e1; obtain ⟨x2, e2⟩ := e2; subst e1; subst e2; exact ⟨rfl, (h.thr2 _ (by decide) (by decide) _ _).sight _⟩⟩⟩
  | none =>
    exact ⟨_, 0, _, _, _, CRes.throwX fun sz => x_X3_twins_NS l dC dI A cI cQ σ hlt sz (fun a u => i2n (nxS σ a u)) h.yS (h.twins.trans q1), fun sz => m_twins1 l dC dI AB cI cZ τ sz h.hM hC hC6 h.hse h.yR q1, Or.inr ⟨0, by decide, rfl, fun σ' τ' e1 e2 => by obtain ⟨x1, e1⟩ := e1; obtain ⟨x2, e2⟩ := e2; subst e1; subst e2; exact ⟨rfl, (h.thr2 _ (by decide) (by decide) _ _).sight _⟩⟩⟩
theorem a_clear (h : Rel σ τ th ef se C m c0 ta tp tq ht) : Agr0 l dC dI A AB cI cQ cZ σ τ yX3_clear wsX3_clear yX4_clear wsX4_clear := by
  refine ⟨_, _, _, fun sz => o_X3_clear l dC dI A cI cQ σ sz, fun sz => by rw [h.cnt 8 (Nat.le_refl _)]; exact m_clear l dC dI AB cI cZ τ sz h.hM, fun σ' τ' e1 e2 => ?_⟩
  subst e1; subst e2
  exact h.clear.E
theorem a_start (h : Rel σ τ th ef se C m c0 ta tp tq ht) : Agr0 l dC dI A AB cI cQ cZ σ τ yX3_start wsX3_start yX4_start wsX4_start := by
  refine ⟨_, _, _, CRes0.read (o_X3_start l dC dI A cI cQ σ), fun sz => by rw [h.st]; exact m_start l dC dI AB cI cZ τ sz h.2.2.1.2.1 h.2.2.1.2.2.1, fun σ' τ' e1 e2 => ?_⟩
  subst e1; subst e2
  exact h.thr _
theorem a_nodes (h : Rel σ τ th ef se C m c0 ta tp tq ht) : Agr0 l dC dI A AB cI cQ cZ σ τ yX3_nodes wsX3_nodes yX4_nodes wsX4_nodes := by
  refine ⟨_, _, _, CRes0.read (o_X3_nodes l dC dI A cI cQ σ), fun sz => by rw [show ctS σ = τ.1 15 from h.2.2.2.2.2.2.1.trans h.2.2.2.2.2.2.2.1.symm]; exact m_nodes l dC dI AB cI cZ τ sz, fun σ' τ' e1 e2 => ?_⟩
  subst e1; subst e2
  exact h.thr _
theorem a_made (h : Rel σ τ th ef se C m c0 ta tp tq ht) : Agr0 l dC dI A AB cI cQ cZ σ τ yX3_made wsX3_made yX4_made wsX4_made := by
  refine ⟨_, _, _, CRes0.read (o_X3_made l dC dI A cI cQ σ), fun sz => by rw [show maS σ = τ.1 29 from h.2.2.2.2.2.1.1.trans h.2.2.2.2.2.1.2.1.symm]; exact m_made l dC dI AB cI cZ τ sz, fun σ' τ' e1 e2 => ?_⟩
  subst e1; subst e2
  exact h.thr _
end AGR
