/-! ===== the reference's numbers are the same plans' ===== -/
theorem log_dbl : ∀ k, k < 16 → 1 ≤ k → Nat.log2 (2 * k) = Nat.log2 k + 1 ∧ Nat.log2 (2 * k + 1) = Nat.log2 k + 1 := by decide +kernel
def tK (us : Nat → Int32 → Bool) (pt : Nat → Int32 → Int32 → Int32) (re : Int32 → Bool) (n : Nat) (bel : Nat → Int32) (k : Nat) : Nat := tr us pt re (n - Nat.log2 k) (bel k)
section TK
variable {us : Nat → Int32 → Bool} {pt : Nat → Int32 → Int32 → Int32} {re : Int32 → Bool} {n : Nat} {b : Int32} {bel dos num : Nat → Int32}
theorem tK_0 {k : Nat} (h : bel k = 0) : tK us pt re n bel k = 0 := by unfold tK; rw [h]; exact tr_0 _
theorem tK_n0 {k : Nat} (h : ¬ bel k = 0) : 1 ≤ tK us pt re n bel k := tr_ne h
theorem tK_log (hB : bldI us pt re n b bel dos num 32) {k : Nat} (h1 : 1 ≤ k) (h2 : k < 32) (h : ¬ bel k = 0) : Nat.log2 k ≤ n := by
  rcases Nat.lt_or_ge n (Nat.log2 k) with z | z
  · exact absurd (hB.2.2.1 k h1 h2 z) h
  · exact z
/-- a place that is not empty: a leaf or a node -/
theorem tK_cases (hB : bldI us pt re n b bel dos num 32) (hn : n ≤ 4) {k : Nat} (h1 : 1 ≤ k) (h2 : k < 32) (h : ¬ bel k = 0) :
    (dcO us pt re (n - Nat.log2 k) (bel k) = none ∧ dos k = -1 ∧ tK us pt re n bel k = 1) ∨ ∃ a, dcO us pt re (n - Nat.log2 k) (bel k) = some a ∧ a < 8 ∧ k < 16 ∧ dos k = nI a ∧ n - Nat.log2 k = n - Nat.log2 (2 * k) + 1 ∧ n - Nat.log2 (2 * k + 1) = n - Nat.log2 (2 * k) ∧ bel (2 * k) = pt a (bel k) 0 ∧ bel (2 * k + 1) = pt a (bel k) 1 ∧ tK us pt re n bel k = nd a (tK us pt re n bel (2 * k)) (tK us pt re n bel (2 * k + 1)) := by
  have hl := tK_log hB h1 h2 h
  obtain ⟨e1, e2, e3⟩ := hB.2.1 k h1 h2 hl
  cases hd : dcO us pt re (n - Nat.log2 k) (bel k) with
  | none => rw [hd] at e1; exact Or.inl ⟨rfl, e1, tr_leaf h hd⟩
  | some a =>
    right
    rw [hd] at e1 e2 e3
    have ha := (dcO_lt hd).1
    have hm : 1 ≤ n - Nat.log2 k := by
      rcases Nat.lt_or_ge 0 (n - Nat.log2 k) with z | z
      · exact z
      · rw [show n - Nat.log2 k = 0 by omega, dcO_0] at hd; cases hd
    have h16 : k < 16 := log16 k h2 (by omega)
    obtain ⟨l0, l1⟩ := log_dbl k h16 h1
    refine ⟨a, rfl, ha, h16, e1, by omega, by omega, e2, e3, ?_⟩
    unfold tK
    obtain ⟨m, hm2⟩ : ∃ m, n - Nat.log2 k = m + 1 := ⟨n - Nat.log2 k - 1, by omega⟩
    rw [hm2] at hd ⊢
    rw [tr_node hd, show n - Nat.log2 (2 * k) = m by omega, show n - Nat.log2 (2 * k + 1) = m by omega, e2, e3]
    rfl
/-- what the classes come to, from place lo on -/
def smP (us : Nat → Int32 → Bool) (pt : Nat → Int32 → Int32 → Int32) (re : Int32 → Bool) (n : Nat) (bel h : Nat → Int32) (lo : Nat) : Prop :=
  (∀ i, lo ≤ i → i < 32 → ¬ bel i = 0 → ∃ v, h i = nI v ∧ i ≤ v ∧ v < 32 ∧ ¬ bel v = 0 ∧ tK us pt re n bel v = tK us pt re n bel i ∧ h v = nI v) ∧
  ∀ i j, lo ≤ i → i < 32 → lo ≤ j → j < 32 → ¬ bel i = 0 → ¬ bel j = 0 → tK us pt re n bel i = tK us pt re n bel j → h i = h j
theorem smP.iff {h : Nat → Int32} {lo i j : Nat} (hp : smP us pt re n bel h lo) (i1 : lo ≤ i) (i2 : i < 32) (j1 : lo ≤ j) (j2 : j < 32) (bi : ¬ bel i = 0) (bj : ¬ bel j = 0) : h i = h j ↔ tK us pt re n bel i = tK us pt re n bel j := by
  refine ⟨fun e => ?_, hp.2 i j i1 i2 j1 j2 bi bj⟩
  obtain ⟨v, v1, v2, v3, v4, v5, v6⟩ := hp.1 i i1 i2 bi
  obtain ⟨w, w1, w2, w3, w4, w5, w6⟩ := hp.1 j j1 j2 bj
  rw [v1, w1] at e
  have := nI_inj (by omega) (by omega) e
  rw [← v5, ← w5, this]
theorem cls_iff {h : Nat → Int32} {lo i j : Nat} (hp : smP us pt re n bel h lo) (hlo : 1 ≤ lo) (i1 : lo ≤ i) (i2 : i < 32) (j1 : lo ≤ j) (j2 : j < 32) : (if bel i = 0 then (0 : Int32) else h i) = (if bel j = 0 then (0 : Int32) else h j) ↔ tK us pt re n bel i = tK us pt re n bel j := by
  have hz : ∀ i, lo ≤ i → i < 32 → ¬ bel i = 0 → ¬ h i = 0 := fun i a1 a2 a3 e => by
    obtain ⟨v, v1, v2, v3, _⟩ := hp.1 i a1 a2 a3
    have := nI_inj (a := v) (b := 0) (by omega) (by omega) (v1.symm.trans e)
    omega
  by_cases bi : bel i = 0 <;> by_cases bj : bel j = 0
  · rw [if_pos bi, if_pos bj, tK_0 bi, tK_0 bj]; exact ⟨fun _ => rfl, fun _ => rfl⟩
  · rw [if_pos bi, if_neg bj, tK_0 bi]
    have := tK_n0 (us := us) (pt := pt) (re := re) (n := n) bj
    exact ⟨fun e => absurd e.symm (hz j j1 j2 bj), fun e => by omega⟩
  · rw [if_neg bi, if_pos bj, tK_0 bj]
    have := tK_n0 (us := us) (pt := pt) (re := re) (n := n) bi
    exact ⟨fun e => absurd e (hz i i1 i2 bi), fun e => by omega⟩
  · rw [if_neg bi, if_neg bj]; exact hp.iff i1 i2 j1 j2 bi bj
theorem eqA_iff (hB : bldI us pt re n b bel dos num 32) (hn : n ≤ 4) {h : Nat → Int32} {k j : Nat} (hp : smP us pt re n bel h (k + 1)) (k1 : 1 ≤ k) (kj : k < j) (j2 : j < 32) (bk : ¬ bel k = 0) (bj : ¬ bel j = 0) {f : Nat → Int32} (hf : ∀ q, ¬ q = k → f q = h q) : eqA bel dos f k j = true ↔ tK us pt re n bel k = tK us pt re n bel j := by
  unfold eqA
  rw [if_neg (fun q => q.elim bk bj)]
  rcases tK_cases hB hn k1 (by omega) bk with ⟨_, d1, t1⟩ | ⟨a, _, a1, a2, d1, _, _, _, _, t1⟩ <;> rcases tK_cases hB hn (by omega) j2 bj with ⟨_, e1, u1⟩ | ⟨c, _, c1, c2, e1, _, _, _, _, u1⟩
  · rw [d1, e1, if_pos rfl, t1, u1]; exact ⟨fun _ => rfl, fun _ => rfl⟩
  · rw [d1, e1, if_neg (fun q => nI_n1 (by omega) q.symm), t1, u1]
    have := nd_ge c (tK us pt re n bel (2 * j)) (tK us pt re n bel (2 * j + 1))
    exact ⟨fun q => (by cases q), fun q => by omega⟩
  · rw [d1, e1, if_neg (nI_n1 (by omega)), t1, u1]
    have := nd_ge a (tK us pt re n bel (2 * k)) (tK us pt re n bel (2 * k + 1))
    exact ⟨fun q => (by cases q), fun q => by omega⟩
  · by_cases hac : a = c
    · subst hac
      rw [d1, e1, if_pos rfl, decide_eq_false (nI_ge0 (show a < 2 ^ 31 by omega)), Bool.false_or, Bool.and_eq_true, decide_eq_true_iff, decide_eq_true_iff, hf (2 * k) (by omega), hf (2 * j) (by omega), hf (2 * k + 1) (by omega), hf (2 * j + 1) (by omega), cls_iff hp (by omega) (by omega) (by omega) (by omega) (by omega), cls_iff hp (by omega) (by omega) (by omega) (by omega) (by omega), t1, u1]
      exact ⟨fun q => by rw [q.1, q.2], fun q => (nd_inj q).2⟩
    · rw [d1, e1, if_neg (fun q => hac (nI_inj (by omega) (by omega) q)), t1, u1]
      exact ⟨fun q => (by cases q), fun q => absurd (nd_inj q).1 hac⟩
theorem smI_ok (hB : bldI us pt re n b bel dos num 32) (hn : n ≤ 4) (hpos : ∀ k, 1 ≤ k → k < 32 → ¬ bel k = 0 → 0 < bel k) {h : Nat → Int32} {k : Nat} (k1 : 1 ≤ k) (hk : k < 32) (hp : smP us pt re n bel h (k + 1)) (bk : ¬ bel k = 0) :
    ∀ c, c + k ≤ 31 → (smI bel dos k c (upd h k (nI k)) k = nI k ∧ ∀ j, 31 - c < j → j < 32 → ¬ bel j = 0 → h j = nI j → ¬ tK us pt re n bel k = tK us pt re n bel j) ∨ ∃ j, k < j ∧ j < 32 ∧ ¬ bel j = 0 ∧ h j = nI j ∧ tK us pt re n bel k = tK us pt re n bel j ∧ smI bel dos k c (upd h k (nI k)) k = nI j := by
  intro c
  induction c with
  | zero => intro _; exact Or.inl ⟨upd_eq, fun j a1 a2 => by omega⟩
  | succ c ih =>
    intro hc
    have ho : ∀ q, ¬ q = k → smI bel dos k c (upd h k (nI k)) q = h q := fun q hq => by rw [(smI_nat (bel := bel) (dos := dos) hk c (upd h k (nI k)) (by omega) ⟨k, upd_eq, Nat.le_refl k, hk⟩).2 q hq, upd_ne hq]
    by_cases hcond : 0 < bel k ∧ 0 < bel (31 - c) ∧ smI bel dos k c (upd h k (nI k)) (31 - c) = nI (31 - c) ∧ eqA bel dos (smI bel dos k c (upd h k (nI k))) k (31 - c) = true
    · right
      have bj : ¬ bel (31 - c) = 0 := fun q => by rw [q] at hcond; exact absurd hcond.2.1 (by decide)
      refine ⟨31 - c, by omega, by omega, bj, by rw [← ho (31 - c) (by omega)]; exact hcond.2.2.1, (eqA_iff hB hn hp k1 (by omega) (by omega) bk bj ho).mp hcond.2.2.2, ?_⟩
      show smS bel dos k (31 - c) (smI bel dos k c (upd h k (nI k))) k = _
      unfold smS
      rw [if_pos hcond, upd_eq]
    · have hs : smI bel dos k (c + 1) (upd h k (nI k)) = smI bel dos k c (upd h k (nI k)) := if_neg hcond
      rw [hs]
      rcases ih (by omega) with ⟨q1, q2⟩ | q
      · refine Or.inl ⟨q1, fun j a1 a2 a3 a4 a5 => ?_⟩
        rcases Nat.lt_or_ge (31 - c) j with z | z
        · exact q2 j z a2 a3 a4 a5
        · obtain rfl : j = 31 - c := by omega
          exact hcond ⟨hpos k k1 hk bk, hpos _ (by omega) a2 a3, by rw [ho _ (by omega)]; exact a4, (eqA_iff hB hn hp k1 (by omega) a2 bk a3 ho).mpr a5⟩
      · exact Or.inr q
theorem smO_ok (hB : bldI us pt re n b bel dos num 32) (hn : n ≤ 4) (hpos : ∀ k, 1 ≤ k → k < 32 → ¬ bel k = 0 → 0 < bel k) (g : Nat → Int32) : ∀ c, c ≤ 31 → smP us pt re n bel (smO bel dos c g) (32 - c) := by
  intro c
  induction c with
  | zero => intro _; exact ⟨fun i a1 a2 => by omega, fun i j a1 a2 => by omega⟩
  | succ c ih =>
    intro hc
    have hp := ih (by omega)
    rw [show 32 - c = 31 - c + 1 by omega] at hp
    rw [show 32 - (c + 1) = 31 - c by omega]
    have ho : ∀ q, ¬ q = 31 - c → smO bel dos (c + 1) g q = smO bel dos c g q := fun q hq => by
      show smI bel dos (31 - c) c (upd (smO bel dos c g) (31 - c) (nI (31 - c))) q = _
      rw [(smI_nat (bel := bel) (dos := dos) (show 31 - c < 32 by omega) c (upd (smO bel dos c g) (31 - c) (nI (31 - c))) (by omega) ⟨31 - c, upd_eq, Nat.le_refl _, by omega⟩).2 q hq, upd_ne hq]
    have hk : ¬ bel (31 - c) = 0 → _ := fun bk => smI_ok hB hn hpos (k := 31 - c) (by omega) (by omega) hp bk c (by omega)
    refine ⟨fun i i1 i2 bi => ?_, fun i j i1 i2 j1 j2 bi bj e => ?_⟩
    · by_cases hi : i = 31 - c
      · rcases hk (hi ▸ bi) with ⟨q1, _⟩ | ⟨j, j1, j2, j3, j4, j5, j6⟩
        · exact ⟨i, by rw [hi]; exact q1, Nat.le_refl i, i2, bi, rfl, by rw [hi]; exact q1⟩
        · exact ⟨j, by rw [hi]; exact j6, by omega, j2, j3, by rw [hi]; exact j5.symm, by rw [ho j (by omega)]; exact j4⟩
      · rw [ho i hi]
        obtain ⟨v, v1, v2, v3, v4, v5, v6⟩ := hp.1 i (by omega) i2 bi
        exact ⟨v, v1, v2, v3, v4, v5, by rw [ho v (by omega)]; exact v6⟩
    · -- the newest place against an older one
      have key : ∀ j, 31 - c < j → j < 32 → ¬ bel j = 0 → ¬ bel (31 - c) = 0 → tK us pt re n bel (31 - c) = tK us pt re n bel j → smO bel dos (c + 1) g (31 - c) = smO bel dos (c + 1) g j := by
        intro j a1 a2 a3 a4 a5
        rw [ho j (by omega)]
        rcases hk a4 with ⟨q1, q2⟩ | ⟨u, u1, u2, u3, u4, u5, u6⟩
        · obtain ⟨v, v1, v2, v3, v4, v5, v6⟩ := hp.1 j (by omega) a2 a3
          exact absurd (a5.trans v5.symm) (q2 v (by omega) v3 v4 v6)
        · have h9 := hp.2 j u (by omega) a2 (by omega) u2 a3 u3 (a5.symm.trans u5)
          rw [h9, u4]
          exact u6
      by_cases hi : i = 31 - c
      · by_cases hj : j = 31 - c
        · rw [hi, hj]
        · rw [hi] at bi e ⊢
          exact key j (by omega) j2 bj bi e
      · by_cases hj : j = 31 - c
        · rw [hj] at bj e ⊢
          exact (key i (by omega) i2 bi bj e.symm).symm
        · rw [ho i hi, ho j hj]
          exact hp.2 i j (by omega) i2 (by omega) j2 bi bj e
theorem sam_iff (hB : bldI us pt re n b bel dos num 32) (hn : n ≤ 4) (hpos : ∀ k, 1 ≤ k → k < 32 → ¬ bel k = 0 → 0 < bel k) {g : Nat → Int32} {i j : Nat} (i1 : 1 ≤ i) (i2 : i < 32) (j1 : 1 ≤ j) (j2 : j < 32) (bi : ¬ bel i = 0) (bj : ¬ bel j = 0) : samN bel dos g i = samN bel dos g j ↔ tK us pt re n bel i = tK us pt re n bel j := by
  have hp := smO_ok hB hn hpos g 31 (Nat.le_refl _)
  rw [← hp.iff (by omega) i2 (by omega) j2 bi bj, (samN_at i1 i2).1, (samN_at j1 j2).1]
  exact ⟨fun e => by rw [e], fun e => nI_inj (by have := (samN_at (bel := bel) (dos := dos) (g := g) i1 i2).2.2; omega) (by have := (samN_at (bel := bel) (dos := dos) (g := g) j1 j2).2.2; omega) e⟩
/-- the run's list, read as plans -/
theorem nrun_ok (hB : bldI us pt re n b bel dos num 32) (hn : n ≤ 4) (hpos : ∀ k, 1 ≤ k → k < 32 → ¬ bel k = 0 → 0 < bel k) (g : Nat → Int32) :
    ∀ (f : Nat) (S K : List Nat), (∀ k ∈ S, 1 ≤ k ∧ k < 32) → (∀ k ∈ K, (1 ≤ k ∧ k < 32) ∧ ¬ bel k = 0) → msm S ≤ f →
      (nrun bel dos (samN bel dos g) f S K).map (tK us pt re n bel) = S.foldl (fun L k => insF us pt re (n - Nat.log2 k) (bel k) L) (K.map (tK us pt re n bel)) := by
  intro f
  induction f with
  | zero =>
    intro S K hS hK hm
    cases S with
    | nil => rfl
    | cons k S => have := msz_pos k (hS k (List.mem_cons_self ..)).2; rw [msm_cons] at hm; omega
  | succ f ih =>
    intro S K hS hK hm
    cases S with
    | nil => rfl
    | cons k S =>
      have hk := hS k (List.mem_cons_self ..)
      have hS' : ∀ q ∈ S, 1 ≤ q ∧ q < 32 := fun q hq => hS q (List.mem_cons_of_mem _ hq)
      have hmz := msz_pos k hk.2
      rw [msm_cons] at hm
      rw [List.foldl_cons]
      have hmem : ¬ bel k = 0 → (samN bel dos g k ∈ K.map (samN bel dos g) ↔ tK us pt re n bel k ∈ K.map (tK us pt re n bel)) := by
        intro bk
        rw [List.mem_map, List.mem_map]
        exact ⟨fun ⟨q, q1, q2⟩ => ⟨q, q1, (sam_iff hB hn hpos (hK q q1).1.1 (hK q q1).1.2 hk.1 hk.2 (hK q q1).2 bk).mp q2⟩, fun ⟨q, q1, q2⟩ => ⟨q, q1, (sam_iff hB hn hpos (hK q q1).1.1 (hK q q1).1.2 hk.1 hk.2 (hK q q1).2 bk).mpr q2⟩⟩
      by_cases bk : bel k = 0
      · rw [nrun, if_neg (fun q => by rw [bk] at q; exact absurd q.1 (by decide)), ih S K hS' hK (by omega), bk, ins_0]
      · by_cases hin : samN bel dos g k ∈ K.map (samN bel dos g)
        · rw [nrun, if_neg (fun q => q.2 hin), ih S K hS' hK (by omega), ins_mem ((hmem bk).mp hin)]
        · have hnt : ¬ tr us pt re (n - Nat.log2 k) (bel k) ∈ K.map (tK us pt re n bel) := fun q => hin ((hmem bk).mpr q)
          have hK' : ∀ q ∈ K ++ [k], (1 ≤ q ∧ q < 32) ∧ ¬ bel q = 0 := fun q hq => by
            rcases List.mem_append.mp hq with z | z
            · exact hK q z
            · rw [List.mem_singleton.mp z]; exact ⟨hk, bk⟩
          rw [nrun, if_pos ⟨hpos k hk.1 hk.2 bk, hin⟩]
          rcases tK_cases hB hn hk.1 hk.2 bk with ⟨d0, d1, t1⟩ | ⟨a, d0, a1, a2, d1, m1, m2, b0, b1, t1⟩
          · rw [if_neg (by rw [d1]; decide), ih S (K ++ [k]) hS' hK' (by omega), List.map_append, ins_leaf bk d0 (by rw [tr_leaf bk d0] at hnt; exact hnt)]
            show S.foldl _ (K.map (tK us pt re n bel) ++ [tK us pt re n bel k]) = _
            rw [t1]
          · have hz := msz_kid k a2 hk.1
            rw [if_pos (by rw [d1]; exact nI_nlt0 (by omega)), ih (2 * k :: (2 * k + 1) :: S) (K ++ [k]) (fun q hq => by
              rcases List.mem_cons.mp hq with rfl | hq
              · omega
              rcases List.mem_cons.mp hq with rfl | hq
              · omega
              exact hS' q hq) hK' (by rw [msm_cons, msm_cons]; omega), List.foldl_cons, List.foldl_cons, List.map_append]
            rw [m1] at d0 hnt ⊢
            rw [ins_node d0 hnt, ← b0, ← b1, m2]
            congr 3
            show K.map (tK us pt re n bel) ++ [tr us pt re (n - Nat.log2 k) (bel k)] = _
            rw [m1]
end TK
