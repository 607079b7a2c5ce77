/-! ===== the class's state beside the reference's ===== -/
theorem lo4 {x : Int32} (h : ∀ i, 4 ≤ i → bt x i = false) : ∃ v, v < 16 ∧ x = nI v := by
  refine ⟨x.toBitVec.toNat, ?_, ?_⟩
  · refine Nat.lt_pow_two_of_testBit (n := 4) _ fun i hi => ?_
    rw [BitVec.testBit_toNat]
    exact h i hi
  · apply Int32.toBitVec_inj.mp
    show x.toBitVec = BitVec.ofNat 32 x.toBitVec.toNat
    exact (BitVec.ofNat_toNat 32 x.toBitVec).symm ▸ (by simp)
theorem lo4_of : ∀ v, v < 16 → ∀ i, 4 ≤ i → bt (nI v) i = false := by
  intro v hv i hi
  rcases Nat.lt_or_ge i 32 with z | z
  · exact (by decide +kernel : ∀ v, v < 16 → ∀ i, i < 32 → 4 ≤ i → bt (nI v) i = false) v hv i z hi
  · exact b_big z
theorem lo4_or {x : Int32} {f : Nat} (hf : f < 4) (h : ∀ i, 4 ≤ i → bt x i = false) : ∀ i, 4 ≤ i → bt (x ||| ((1 : Int32) <<< (nI f &&& 31))) i = false := by
  intro i hi
  rcases Nat.lt_or_ge i 32 with z | z
  · rw [b_or, h i hi, b_one (by omega) z, decide_eq_false (by omega)]; rfl
  · exact b_big z
theorem lo4_and {x : Int32} (y : Int32) (h : ∀ i, 4 ≤ i → bt x i = false) : ∀ i, 4 ≤ i → bt (x &&& y) i = false := by
  intro i hi
  rw [b_and, h i hi]; rfl
theorem nxN_lo {ar : Nat → Nat → Int32} (hf : ∀ k, k < 32 → ∃ f, f < 4 ∧ ar 6 k = nI f) {a s : Nat} (ha : a < 8) (hs : s < 16) : ∀ j, j ≤ 4 → ∀ i, 4 ≤ i → bt (nxN ar a s j) i = false := by
  intro j
  induction j with
  | zero => intro _; exact lo4_of s hs
  | succ j ih =>
    intro hj
    have h := ih (by omega)
    rw [nxN]
    split
    · split
      · exact lo4_and _ h
      · obtain ⟨f, hf1, hf2⟩ := hf (4 * a + j) (by omega)
        rw [hf2]
        exact lo4_or hf1 h
    · exact h
def i2n (x : Int32) : Nat := x.toInt.toNat
theorem i2n_at {x : Int32} {v : Nat} (h : x = nI v) (hv : v < 2 ^ 31) : i2n x = v := by unfold i2n; rw [h, nI_toInt hv]; rfl
def acR (σ : HS) (τ : MS) (ef : Nat → Nat) (se : Nat → Option Nat) (a : Nat) : Prop := acS σ a 1 = mk (demF (τ.2 2 a) (τ.2 3 a)) ∧ acS σ a 2 = tiI (se a) ∧ acS σ a 3 = nI (ef a) ∧ ∀ j, j < 16 → nxS σ a j = nxN τ.2 a j (ef a)
def Rel (σ : HS) (τ : MS) (th : Nat → Bool) (ef : Nat → Nat) (se : Nat → Option Nat) (C m c0 : Nat) (ta tp tq : Nat → Option Nat) (ht : Nat → Nat) : Prop :=
  (mok th ef τ ∧ (∀ k, k < 32 → ∃ f, f < 4 ∧ τ.2 6 k = nI f)) ∧
  (∀ a, a < 8 → acS σ a 0 = b2i (th a) ∧ (τ.2 4 a = o2i (se a) ∧ ∀ j, se a = some j → j < 4) ∧ (∀ j, j < 16 → ∃ v, v < 16 ∧ nxS σ a j = nI v) ∧ (th a = true → acR σ τ ef se a)) ∧
  (clS σ = nI C ∧ τ.1 10 = nI C ∧ C ≤ 6 ∧ stS σ = stR τ C) ∧
  goS σ = mk (demF (τ.1 13) (τ.1 14)) ∧
  (hiS σ = τ.1 28 ∧ (hiS σ = -1 ∨ ∃ h, h < 16 ∧ hiS σ = nI h)) ∧
  (maS σ = nI m ∧ τ.1 29 = nI m ∧ m ≤ 4 ∧ ∀ k, k < m → trS σ k = τ.2 30 k) ∧
  (ctS σ = nI c0 ∧ τ.1 15 = nI c0 ∧ tbl c0 ta tp tq ht ∧ tOK (tcS σ) c0 ta tp tq ∧ tbA τ.2 c0 ta tp tq)
section REL
variable {σ : HS} {τ : MS} {th : Nat → Bool} {ef : Nat → Nat} {se : Nat → Option Nat} {C m c0 : Nat} {ta tp tq : Nat → Option Nat} {ht : Nat → Nat}
theorem Rel.hM (h : Rel σ τ th ef se C m c0 ta tp tq ht) : mok th ef τ := h.1.1
theorem Rel.hse (h : Rel σ τ th ef se C m c0 ta tp tq ht) : ∀ a, a < 8 → τ.2 4 a = o2i (se a) ∧ ∀ j, se a = some j → j < 4 := fun a ha => (h.2.1 a ha).2.1
theorem Rel.yR (h : Rel σ τ th ef se C m c0 ta tp tq ht) : ∀ a, a < 8 → ∀ u, u < 16 → nxN τ.2 a u (ef a) = nI (i2n (nxN τ.2 a u (ef a))) ∧ i2n (nxN τ.2 a u (ef a)) < 16 := by
  intro a ha u hu
  obtain ⟨v, v1, v2⟩ := lo4 (nxN_lo h.1.2 ha hu (ef a) (h.1.1 a ha).2.2)
  have := i2n_at v2 (by omega)
  rw [this]
  exact ⟨v2, v1⟩
theorem Rel.yS (h : Rel σ τ th ef se C m c0 ta tp tq ht) : ∀ a, a < 8 → ∀ u, u < 16 → nxS σ a u = nI (i2n (nxS σ a u)) ∧ i2n (nxS σ a u) < 16 := by
  intro a ha u hu
  obtain ⟨v, v1, v2⟩ := (h.2.1 a ha).2.2.1 u hu
  have := i2n_at v2 (by omega)
  rw [this]
  exact ⟨v2, v1⟩
theorem Rel.us (h : Rel σ τ th ef se C m c0 ta tp tq ht) {a : Nat} (ha : a < 8) {b : Int32} (hb : is16 b) : usS σ a b = usR th τ a b := by
  unfold usS usR
  obtain ⟨h0, _, _, h3⟩ := h.2.1 a ha
  cases ht : th a with
  | false => rw [h0, ht]; rfl
  | true =>
    obtain ⟨e1, _⟩ := h3 ht
    rw [h0, ht, e1]
    show (true && decide (b &&& (mk (demF (τ.2 2 a) (τ.2 3 a)) ^^^ (-1)) = 0)) = (true && allN (usP τ a b) 16)
    rw [Bool.true_and, Bool.true_and]
    apply bool_iff
    rw [decide_eq_true_iff, eq0_16 (is16_and _ hb), allN_iff]
    constructor
    · intro q j hj
      have := q j hj
      rw [b_and, b_not _ (by omega), bt_mk' _ hj] at this
      unfold usP
      revert this
      cases bt b j <;> cases demF (τ.2 2 a) (τ.2 3 a) j <;> simp
    · intro q j hj
      have := q j hj
      unfold usP at this
      rw [b_and, b_not _ (by omega), bt_mk' _ hj]
      revert this
      cases bt b j <;> cases demF (τ.2 2 a) (τ.2 3 a) j <;> simp
theorem us_th {a : Nat} {b : Int32} (h : usR th τ a b = true) : th a = true := by
  unfold usR at h
  rw [Bool.and_eq_true] at h
  exact h.1
theorem Rel.af (h : Rel σ τ th ef se C m c0 ta tp tq ht) {a : Nat} (ha : a < 8) (ht : th a = true) (b : Int32) : afS σ a b = afR ef τ a b := by
  obtain ⟨_, _, _, h3⟩ := h.2.1 a ha
  unfold afS afR
  exact afN_congr b 16 fun j hj => (h3 ht).2.2.2 j hj
theorem Rel.af16 (h : Rel σ τ th ef se C m c0 ta tp tq ht) {a : Nat} (ha : a < 8) (b : Int32) : is16 (afR ef τ a b) := by
  intro i hi
  rcases Nat.lt_or_ge i 32 with z | z
  · unfold afR
    rw [bt_or_one (fun j hj => h.yR a ha j hj) b 16 (Nat.le_refl _) i z]
    exact any_f fun j hj => by rw [decide_eq_false (by have := (h.yR a ha j hj).2; omega), Bool.and_false]
  · exact b_big z
theorem Rel.p16 (h : Rel σ τ th ef se C m c0 ta tp tq ht) : ∀ a, a < 8 → ∀ x w, is16 (ptR ef τ a x w) := by
  intro a ha x w
  unfold ptR
  split
  · split
    · exact h.af16 ha x
    · exact is16_0
  · exact is16_mk _
theorem Rel.pt (h : Rel σ τ th ef se C m c0 ta tp tq ht) {a : Nat} (ha : a < 8) (ht : th a = true) (b : Int32) {w : Int32} (hw : w = 0 ∨ w = 1) : ptS σ a b w = ptR ef τ a b w := by
  obtain ⟨_, ⟨s1, s2⟩, _, h3⟩ := h.2.1 a ha
  obtain ⟨_, e2, _, _⟩ := h3 ht
  have i16 := h.af16 (σ := σ) ha b
  unfold ptS ptR paS
  rw [h.af ha ht b, e2, s1]
  cases hs : se a with
  | none =>
    rw [if_pos (show ¬ (0 : Int32) ≤ o2i none by decide)]
    rcases hw with rfl | rfl
    · rw [if_pos rfl, if_pos rfl]
      refine ext16 (is16_and _ i16) i16 fun i hi => ?_
      rw [b_and, b_not _ (by omega), ti_none, Bool.not_false, Bool.and_true]
    · rw [if_neg (by decide), if_neg (by decide)]
      refine ext16 (is16_and _ i16) is16_0 fun i hi => ?_
      rw [b_and, ti_none, Bool.and_false, b_0]
  | some f =>
    have hf := s2 f hs
    rw [if_neg (show ¬ ¬ (0 : Int32) ≤ o2i (some f) from fun q => q (nI_nlt0 (show f < 2 ^ 31 by omega)))]
    have hbit : ∀ i, i < 16 → ((nI i >>> (o2i (some f) &&& 31)) &&& 1) = b2i (bt (tiI (some f)) i) := fun i hi => by rw [ti_bit f hf i hi]; exact b_shr1 (by omega) _
    rcases hw with rfl | rfl
    · rw [if_pos rfl]
      refine ext16 (is16_and _ i16) (is16_mk _) fun i hi => ?_
      rw [b_and, b_not _ (by omega), bt_mk' _ hi]
      unfold prF
      rw [hbit i hi]
      cases bt (tiI (some f)) i <;> simp [b2i]
    · rw [if_neg (by decide)]
      refine ext16 (is16_and _ i16) (is16_mk _) fun i hi => ?_
      rw [b_and, bt_mk' _ hi]
      unfold prF
      rw [hbit i hi]
      cases bt (tiI (some f)) i <;> simp [b2i]
theorem Rel.re (h : Rel σ τ th ef se C m c0 ta tp tq ht) {b : Int32} (hb : is16 b) : reS σ b = reR τ b := by
  unfold reS reR
  rw [h.2.2.2.1]
  apply bool_iff
  rw [decide_eq_true_iff, eq0_16 (is16_and _ hb), allN_iff]
  constructor
  · intro q j hj
    have := q j hj
    rw [b_and, b_not _ (by omega), bt_mk' _ hj] at this
    unfold reP
    revert this
    cases bt b j <;> cases demF (τ.1 13) (τ.1 14) j <;> simp
  · intro q j hj
    have := q j hj
    unfold reP at this
    rw [b_and, b_not _ (by omega), bt_mk' _ hj]
    revert this
    cases bt b j <;> cases demF (τ.1 13) (τ.1 14) j <;> simp
theorem Rel.ag (h : Rel σ τ th ef se C m c0 ta tp tq ht) : agU (usS σ) (usR th τ) (ptS σ) (ptR ef τ) (reS σ) (reR τ) := by
  refine ⟨fun a ha b hb => h.us ha hb, fun a ha b hb hu w hw => ?_, fun b hb => h.re hb⟩
  have ht := us_th (by rw [← h.us ha hb]; exact hu)
  rw [h.pt ha ht b hw]
  exact ⟨rfl, h.p16 a ha b w⟩
theorem Rel.few (h : Rel σ τ th ef se C m c0 ta tp tq ht) {b : Int32} (hb : is16 b) (q : Nat) : fewS σ b q = few (usR th τ) (ptR ef τ) (reR τ) b q := few_cg h.ag b hb q
theorem Rel.st (h : Rel σ τ th ef se C m c0 ta tp tq ht) : stS σ = stR τ C := h.2.2.1.2.2.2
/-- nothing but what was thrown, and what is written over before it is read -/
theorem Rel.sim (h : Rel σ τ th ef se C m c0 ta tp tq ht) {τ' : MS} (h1 : ∀ k, ¬ k = 0 → τ'.1 k = τ.1 k) (h2 : ∀ k, (k < 13 ∨ k = 16 ∨ k = 17 ∨ k = 18 ∨ k = 30) → τ'.2 k = τ.2 k) : Rel σ τ' th ef se C m c0 ta tp tq ht := by
  have hz : frz τ' τ := ⟨fun k hk => h2 k (Or.inl hk), h1 10 (by decide), h1 13 (by decide), h1 14 (by decide)⟩
  obtain ⟨⟨a1, a2⟩, a3, ⟨a4, a5, a6, a7⟩, a8, ⟨a9, a10⟩, ⟨a11, a12, a13, a14⟩, a15, a16, a17, a18, a19⟩ := h
  refine ⟨⟨hz.mok a1, by rw [h2 6 (by decide)]; exact a2⟩, fun a ha => ?_, ⟨a4, by rw [h1 10 (by decide)]; exact a5, a6, by rw [hz.st]; exact a7⟩, by rw [h1 13 (by decide), h1 14 (by decide)]; exact a8, ⟨by rw [h1 28 (by decide)]; exact a9, a10⟩, ⟨a11, by rw [h1 29 (by decide)]; exact a12, a13, by rw [h2 30 (by decide)]; exact a14⟩, a15, by rw [h1 15 (by decide)]; exact a16, a17, a18, ?_⟩
  · obtain ⟨b1, b2, b3, b4⟩ := a3 a ha
    refine ⟨b1, by rw [h2 4 (by decide)]; exact b2, b3, fun q => ?_⟩
    obtain ⟨c1, c2, c3, c4⟩ := b4 q
    exact ⟨by rw [h2 2 (by decide), h2 3 (by decide)]; exact c1, c2, c3, fun j hj => by rw [hz.nx]; exact c4 j hj⟩
  · unfold tbA
    rw [h2 16 (by decide), h2 17 (by decide), h2 18 (by decide)]
    exact a19
end REL
