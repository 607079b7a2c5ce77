/-! ===== what each call makes of the relation ===== -/
theorem dem00 (j : Nat) : demF 0 0 j = true := by
  unfold demF
  rw [decide_eq_true_iff]
  apply b_ext
  intro i _
  rw [b_and, b_and, b_0, Bool.and_false, Bool.and_false]
theorem mk_all {f : Nat → Bool} (h : ∀ j, j < 16 → f j = true) : mk f = 65535 := ext16 (is16_mk _) is16_all fun i hi => by rw [bt_mk' _ hi, h i hi, b_65535, decide_eq_true hi]
theorem stR_0 (τ : MS) : stR τ 0 = 65535 := by unfold stR; exact mk_all fun _ _ => rfl
theorem tbl_0 : tbl 0 (fun _ => none) (fun _ => none) (fun _ => none) (fun _ => 0) := ⟨by decide, fun k hk => absurd hk (by omega)⟩
theorem tOK_0 (tc : Nat → Int32) : tOK tc 0 (fun _ => none) (fun _ => none) (fun _ => none) := ⟨by decide, fun k hk => absurd hk (by omega)⟩
theorem tbA_0 (ar : Nat → Nat → Int32) : tbA ar 0 (fun _ => none) (fun _ => none) (fun _ => none) := fun k hk => absurd hk (by omega)
theorem Rel.init : Rel ((0, 65535, 65535, -1, 0), (0, fun _ => 0), (0, fun _ => 0, fun _ => 0), fun _ => 0, clrN (fun _ _ => 0) 8, fun _ _ => 0) (va_up (fun _ => 0) 28 (-1), fun _ _ => 0) (fun _ => false) (fun _ => 0) (fun _ => some 0) 0 0 0 (fun _ => none) (fun _ => none) (fun _ => none) (fun _ => 0) := by
  refine ⟨⟨fun a _ => ⟨rfl, rfl, Nat.zero_le 4⟩, fun k _ => ⟨0, by omega, rfl⟩⟩, fun a ha => ⟨?_, ⟨rfl, fun j q => by cases q; decide⟩, fun j _ => ⟨0, by omega, rfl⟩, fun q => by cases q⟩, ⟨rfl, rfl, by omega, (stR_0 _).symm⟩, (mk_all fun j _ => dem00 j).symm, ⟨rfl, Or.inl rfl⟩, ⟨rfl, rfl, by omega, fun k hk => absurd hk (by omega)⟩, rfl, rfl, tbl_0, tOK_0 _, tbA_0 _⟩
  show clrN (fun _ _ => 0) 8 a 0 = _
  unfold clrN
  rw [if_pos ⟨ha, rfl⟩]
  rfl
section STEP
variable {σ : HS} {τ : MS} {th : Nat → Bool} {ef : Nat → Nat} {se : Nat → Option Nat} {C m c0 : Nat} {ta tp tq : Nat → Option Nat} {ht : Nat → Nat}
theorem Rel.cnt (h : Rel σ τ th ef se C m c0 ta tp tq ht) : ∀ n, n ≤ 8 → cntA (acS σ) n = cnB th n := by
  intro n
  induction n with
  | zero => intro _; rfl
  | succ n ih =>
    intro hn
    rw [cntA, cnB, ih (by omega), (h.2.1 n (by omega)).1]
    cases th n with
    | true => rw [if_neg (by decide), if_pos rfl]
    | false => rw [if_pos (by decide), if_neg (by decide)]
theorem Rel.clear (h : Rel σ τ th ef se C m c0 ta tp tq ht) : Rel ((0, 65535, 65535, -1, 0), (0, tcS σ), σ.2.2.1, trS σ, clrN (acS σ) 8, nxS σ) (va_up (va_up (va_up (va_up (va_up (va_up (va_up τ.1 0 0) 10 0) 13 0) 14 0) 15 0) 28 (-1)) 29 0, va_up τ.2 1 (fillN (τ.2 1) (fun _ => 0) 8)) (fun _ => false) ef se 0 0 0 (fun _ => none) (fun _ => none) (fun _ => none) (fun _ => 0) := by
  refine ⟨⟨fun a ha => ⟨?_, (h.1.1 a ha).2⟩, h.1.2⟩, fun a ha => ⟨?_, (h.2.1 a ha).2.1, (h.2.1 a ha).2.2.1, fun q => by cases q⟩, ⟨rfl, rfl, by omega, (stR_0 _).symm⟩, (mk_all fun j _ => dem00 j).symm, ⟨rfl, Or.inl rfl⟩, ⟨rfl, rfl, by omega, fun k hk => absurd hk (by omega)⟩, rfl, rfl, tbl_0, tOK_0 _, tbA_0 _⟩
  · show fillN (τ.2 1) (fun _ => 0) 8 a = _
    rw [fillN_lt _ _ ha]
    rfl
  · show clrN (acS σ) 8 a 0 = _
    unfold clrN
    rw [if_pos ⟨ha, rfl⟩]
    rfl
theorem up2_at (f : Nat → Nat → Int32) (a k : Nat) (v : Int32) : up2 f a k v a k = v := by unfold up2; rw [if_pos rfl, if_pos rfl]
theorem up2_k (f : Nat → Nat → Int32) {a k j : Nat} (v : Int32) (h : ¬ j = k) : up2 f a k v a j = f a j := by unfold up2; rw [if_pos rfl, if_neg h]
theorem up2_a (f : Nat → Nat → Int32) {a b k j : Nat} (v : Int32) (h : ¬ b = a) : up2 f a k v b j = f b j := by unfold up2; rw [if_neg h]
theorem nxN_cg {ar ar' : Nat → Nat → Int32} {a s : Nat} : ∀ n, (∀ j, j < n → ar' 6 (4 * a + j) = ar 6 (4 * a + j) ∧ ar' 7 (4 * a + j) = ar 7 (4 * a + j) ∧ ar' 8 (4 * a + j) = ar 8 (4 * a + j) ∧ ar' 9 (4 * a + j) = ar 9 (4 * a + j)) → nxN ar' a s n = nxN ar a s n := by
  intro n
  induction n with
  | zero => intro _; rfl
  | succ n ih =>
    intro h
    obtain ⟨e6, e7, e8, e9⟩ := h n (by omega)
    rw [nxN, nxN, ih (fun j hj => h j (by omega)), e6, e7, e8, e9]
theorem Rel.action (h : Rel σ τ th ef se C m c0 ta tp tq ht) {a : Nat} (ha : a < 8) (mm vv : Int32) (o : Option Nat) (ho : ∀ j, o = some j → j < 4) :
    Rel (σ.1, σ.2.1, σ.2.2.1, trS σ, up2 (up2 (up2 (up2 (acS σ) a 0 1) a 1 (mk (demF mm vv))) a 2 (tiI o)) a 3 0, va_up (nxS σ) a (fillN (nxS σ a) (fun j => nI j) 16)) (va_up τ.1 0 0, va_up (va_up (va_up (va_up (va_up τ.2 1 (upd (τ.2 1) a 1)) 2 (upd (τ.2 2) a mm)) 3 (upd (τ.2 3) a vv)) 4 (upd (τ.2 4) a (o2i o))) 5 (upd (τ.2 5) a 0))
      (va_up th a true) (va_up ef a 0) (va_up se a o) C m c0 ta tp tq ht := by
  refine ⟨⟨fun b hb => ?_, h.1.2⟩, fun b hb => ?_, h.2.2.1, h.2.2.2.1, h.2.2.2.2.1, h.2.2.2.2.2.1, h.2.2.2.2.2.2⟩
  · show upd (τ.2 1) a 1 b = _ ∧ upd (τ.2 5) a 0 b = _ ∧ _
    by_cases e : b = a
    · subst e; rw [vup_eq, vup_eq, upd_eq, upd_eq]; exact ⟨rfl, rfl, Nat.zero_le 4⟩
    · rw [vup_ne e, vup_ne e, upd_ne e, upd_ne e]; exact h.1.1 b hb
  · by_cases e : b = a
    · subst e
      refine ⟨?_, ?_, fun j hj => ⟨j, hj, ?_⟩, fun _ => ⟨?_, ?_, ?_, fun j hj => ?_⟩⟩
      · show up2 (up2 (up2 (up2 (acS σ) b 0 1) b 1 (mk (demF mm vv))) b 2 (tiI o)) b 3 0 b 0 = _
        rw [up2_k _ _ (by decide), up2_k _ _ (by decide), up2_k _ _ (by decide), up2_at, vup_eq]; rfl
      · show upd (τ.2 4) b (o2i o) b = _ ∧ _
        rw [upd_eq, vup_eq]
        exact ⟨rfl, ho⟩
      · show va_up (nxS σ) b (fillN (nxS σ b) (fun j => nI j) 16) b j = _
        rw [vup_eq, fillN_lt _ _ hj]
      · show up2 (up2 (up2 (up2 (acS σ) b 0 1) b 1 (mk (demF mm vv))) b 2 (tiI o)) b 3 0 b 1 = mk (demF (upd (τ.2 2) b mm b) (upd (τ.2 3) b vv b))
        rw [up2_k _ _ (by decide), up2_k _ _ (by decide), up2_at, upd_eq, upd_eq]
      · show up2 (up2 (up2 (up2 (acS σ) b 0 1) b 1 (mk (demF mm vv))) b 2 (tiI o)) b 3 0 b 2 = _
        rw [up2_k _ _ (by decide), up2_at, vup_eq]
      · show up2 (up2 (up2 (up2 (acS σ) b 0 1) b 1 (mk (demF mm vv))) b 2 (tiI o)) b 3 0 b 3 = _
        rw [up2_at, vup_eq]; rfl
      · show va_up (nxS σ) b (fillN (nxS σ b) (fun j => nI j) 16) b j = nxN _ b j (va_up ef b 0 b)
        rw [vup_eq, fillN_lt _ _ hj, vup_eq]; rfl
    · obtain ⟨b1, b2, b3, b4⟩ := h.2.1 b hb
      refine ⟨?_, ?_, fun j hj => ?_, fun q => ?_⟩
      · show up2 (up2 (up2 (up2 (acS σ) a 0 1) a 1 (mk (demF mm vv))) a 2 (tiI o)) a 3 0 b 0 = _
        rw [up2_a _ _ e, up2_a _ _ e, up2_a _ _ e, up2_a _ _ e, vup_ne e]; exact b1
      · show upd (τ.2 4) a (o2i o) b = _ ∧ _
        rw [upd_ne e, vup_ne e]
        exact b2
      · show ∃ v, v < 16 ∧ va_up (nxS σ) a (fillN (nxS σ a) (fun j => nI j) 16) b j = _
        rw [vup_ne e]
        exact b3 j hj
      · have q : (va_up th a true b) = true := q
        rw [vup_ne e] at q
        obtain ⟨c1, c2, c3, c4⟩ := b4 q
        refine ⟨?_, ?_, ?_, fun j hj => ?_⟩
        · show up2 (up2 (up2 (up2 (acS σ) a 0 1) a 1 (mk (demF mm vv))) a 2 (tiI o)) a 3 0 b 1 = mk (demF (upd (τ.2 2) a mm b) (upd (τ.2 3) a vv b))
          rw [up2_a _ _ e, up2_a _ _ e, up2_a _ _ e, up2_a _ _ e, upd_ne e, upd_ne e]; exact c1
        · show up2 (up2 (up2 (up2 (acS σ) a 0 1) a 1 (mk (demF mm vv))) a 2 (tiI o)) a 3 0 b 2 = _
          rw [up2_a _ _ e, up2_a _ _ e, up2_a _ _ e, up2_a _ _ e, vup_ne e]; exact c2
        · show up2 (up2 (up2 (up2 (acS σ) a 0 1) a 1 (mk (demF mm vv))) a 2 (tiI o)) a 3 0 b 3 = _
          rw [up2_a _ _ e, up2_a _ _ e, up2_a _ _ e, up2_a _ _ e, vup_ne e]; exact c3
        · show va_up (nxS σ) a (fillN (nxS σ a) (fun j => nI j) 16) b j = nxN _ b j (va_up ef a 0 b)
          rw [vup_ne e, vup_ne e, c4 j hj]
          symm; refine nxN_cg (ef b) fun i _ => ?_; exact ⟨rfl, rfl, rfl, rfl⟩
theorem Rel.effect (h : Rel σ τ th ef se C m c0 ta tp tq ht) {a : Nat} (ha : a < 8) (hth : th a = true) {f : Nat} (hf : f < 4) (mk1 : Bool) (mm vv : Int32) (he : ef a < 4) :
    Rel (σ.1, σ.2.1, σ.2.2.1, trS σ, up2 (acS σ) a 3 (acS σ a 3 + 1), va_up (nxS σ) a (fillN (nxS σ a) (addG (nxS σ a) (1 <<< (nI f &&& 31)) mk1 (mk (demF mm vv))) 16))
      (va_up τ.1 0 0, va_up (va_up (va_up (va_up (va_up τ.2 5 (upd (τ.2 5) a (nI (ef a + 1)))) 6 (upd (τ.2 6) (4 * a + ef a) (nI f))) 7 (upd (τ.2 7) (4 * a + ef a) (b2i mk1))) 8 (upd (τ.2 8) (4 * a + ef a) mm)) 9 (upd (τ.2 9) (4 * a + ef a) vv))
      th (va_up ef a (ef a + 1)) se C m c0 ta tp tq ht := by
  have hold : ∀ b n, b < 8 → (∀ j, j < n → ¬ 4 * b + j = 4 * a + ef a) → ∀ s, nxN (va_up (va_up (va_up (va_up (va_up τ.2 5 (upd (τ.2 5) a (nI (ef a + 1)))) 6 (upd (τ.2 6) (4 * a + ef a) (nI f))) 7 (upd (τ.2 7) (4 * a + ef a) (b2i mk1))) 8 (upd (τ.2 8) (4 * a + ef a) mm)) 9 (upd (τ.2 9) (4 * a + ef a) vv)) b s n = nxN τ.2 b s n := by
    intro b n hb hne s
    refine nxN_cg n fun j hj => ?_
    show upd (τ.2 6) (4 * a + ef a) (nI f) (4 * b + j) = _ ∧ upd (τ.2 7) (4 * a + ef a) (b2i mk1) (4 * b + j) = _ ∧ upd (τ.2 8) (4 * a + ef a) mm (4 * b + j) = _ ∧ upd (τ.2 9) (4 * a + ef a) vv (4 * b + j) = _
    rw [upd_ne (hne j hj), upd_ne (hne j hj), upd_ne (hne j hj), upd_ne (hne j hj)]
    exact ⟨rfl, rfl, rfl, rfl⟩
  obtain ⟨a1, a2, a3, a4⟩ := h.2.1 a ha
  obtain ⟨d1, d2, d3, d4⟩ := a4 hth
  have hnew : ∀ j, j < 16 → addG (nxS σ a) (1 <<< (nI f &&& 31)) mk1 (mk (demF mm vv)) j = nxN (va_up (va_up (va_up (va_up (va_up τ.2 5 (upd (τ.2 5) a (nI (ef a + 1)))) 6 (upd (τ.2 6) (4 * a + ef a) (nI f))) 7 (upd (τ.2 7) (4 * a + ef a) (b2i mk1))) 8 (upd (τ.2 8) (4 * a + ef a) mm)) 9 (upd (τ.2 9) (4 * a + ef a) vv)) a j (ef a + 1) := by
    intro j hj
    rw [nxN, hold a (ef a) ha (fun i hi => by omega) j]
    show _ = if demF (upd (τ.2 8) (4 * a + ef a) mm (4 * a + ef a)) (upd (τ.2 9) (4 * a + ef a) vv (4 * a + ef a)) j = true then (if upd (τ.2 7) (4 * a + ef a) (b2i mk1) (4 * a + ef a) = 0 then nxN τ.2 a j (ef a) &&& (((1 : Int32) <<< (upd (τ.2 6) (4 * a + ef a) (nI f) (4 * a + ef a) &&& 31)) ^^^ (-1)) else nxN τ.2 a j (ef a) ||| ((1 : Int32) <<< (upd (τ.2 6) (4 * a + ef a) (nI f) (4 * a + ef a) &&& 31))) else nxN τ.2 a j (ef a)
    rw [upd_eq, upd_eq, upd_eq, upd_eq]
    unfold addG
    rw [bt_mk' _ hj, d4 j hj]
    cases mk1 with
    | true => rw [if_pos rfl, if_neg (show ¬ b2i true = 0 by decide)]
    | false => rw [if_neg (show ¬ false = true by decide), if_pos (show b2i false = 0 by decide)]
  have hmok : mok th (va_up ef a (ef a + 1)) (va_up τ.1 0 0, va_up (va_up (va_up (va_up (va_up τ.2 5 (upd (τ.2 5) a (nI (ef a + 1)))) 6 (upd (τ.2 6) (4 * a + ef a) (nI f))) 7 (upd (τ.2 7) (4 * a + ef a) (b2i mk1))) 8 (upd (τ.2 8) (4 * a + ef a) mm)) 9 (upd (τ.2 9) (4 * a + ef a) vv)) := by
    intro b hb
    show τ.2 1 b = _ ∧ upd (τ.2 5) a (nI (ef a + 1)) b = _ ∧ _
    by_cases e : b = a
    · subst e; rw [vup_eq, upd_eq]; exact ⟨(h.1.1 b hb).1, rfl, by omega⟩
    · rw [vup_ne e, upd_ne e]; exact h.1.1 b hb
  have hfac : ∀ k, k < 32 → ∃ f0, f0 < 4 ∧ upd (τ.2 6) (4 * a + ef a) (nI f) k = nI f0 := by
    intro k hk
    by_cases e : k = 4 * a + ef a
    · exact ⟨f, hf, by rw [e, upd_eq]⟩
    · rw [upd_ne e]; exact h.1.2 k hk
  refine ⟨⟨hmok, hfac⟩, fun b hb => ?_, h.2.2.1, h.2.2.2.1, h.2.2.2.2.1, h.2.2.2.2.2.1, h.2.2.2.2.2.2⟩
  by_cases e : b = a
  · subst e
    refine ⟨?_, a2, fun j hj => ?_, fun _ => ⟨?_, ?_, ?_, fun j hj => ?_⟩⟩
    · show up2 (acS σ) b 3 (acS σ b 3 + 1) b 0 = _
      rw [up2_k _ _ (by decide)]; exact a1
    · show ∃ v, v < 16 ∧ va_up (nxS σ) b (fillN (nxS σ b) (addG (nxS σ b) (1 <<< (nI f &&& 31)) mk1 (mk (demF mm vv))) 16) b j = _
      rw [vup_eq, fillN_lt _ _ hj, hnew j hj]
      exact lo4 (nxN_lo hfac ha hj _ (by omega))
    · show up2 (acS σ) b 3 (acS σ b 3 + 1) b 1 = _
      rw [up2_k _ _ (by decide)]; exact d1
    · show up2 (acS σ) b 3 (acS σ b 3 + 1) b 2 = _
      rw [up2_k _ _ (by decide)]; exact d2
    · show up2 (acS σ) b 3 (acS σ b 3 + 1) b 3 = nI (va_up ef b (ef b + 1) b)
      rw [up2_at, vup_eq, d3]; exact nI_1 (ef b)
    · show va_up (nxS σ) b (fillN (nxS σ b) (addG (nxS σ b) (1 <<< (nI f &&& 31)) mk1 (mk (demF mm vv))) 16) b j = nxN _ b j (va_up ef b (ef b + 1) b)
      rw [vup_eq, fillN_lt _ _ hj, hnew j hj, vup_eq]
  · obtain ⟨b1, b2, b3, b4⟩ := h.2.1 b hb
    refine ⟨?_, b2, fun j hj => ?_, fun q => ?_⟩
    · show up2 (acS σ) a 3 (acS σ a 3 + 1) b 0 = _
      rw [up2_a _ _ e]; exact b1
    · show ∃ v, v < 16 ∧ va_up (nxS σ) a _ b j = _
      rw [vup_ne e]; exact b3 j hj
    · obtain ⟨c1, c2, c3, c4⟩ := b4 q
      refine ⟨?_, ?_, ?_, fun j hj => ?_⟩
      · show up2 (acS σ) a 3 (acS σ a 3 + 1) b 1 = _
        rw [up2_a _ _ e]; exact c1
      · show up2 (acS σ) a 3 (acS σ a 3 + 1) b 2 = _
        rw [up2_a _ _ e]; exact c2
      · show up2 (acS σ) a 3 (acS σ a 3 + 1) b 3 = nI (va_up ef a (ef a + 1) b)
        rw [up2_a _ _ e, vup_ne e]; exact c3
      · show va_up (nxS σ) a _ b j = nxN _ b j (va_up ef a (ef a + 1) b)
        rw [vup_ne e, vup_ne e, c4 j hj]
        exact (hold b (ef b) hb (fun i hi => by have := (h.1.1 b hb).2.2; omega) j).symm
end STEP
