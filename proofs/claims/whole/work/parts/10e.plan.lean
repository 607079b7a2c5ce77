/-! ===== a plan's two tables are one, and no deeper than four ===== -/
def v2o (v : Int32) : Option Nat := if v = -1 then none else some v.toInt.toNat
theorem v2o_n : v2o (-1) = none := rfl
theorem v2o_at {k : Nat} (h : k < 2 ^ 31) : v2o (nI k) = some k := by
  unfold v2o
  rw [if_neg (nI_n1 h), nI_toInt h]
  rfl
def Hle : Nat → Nat → Prop
  | 0, t => t = 0 ∨ t = 1
  | h + 1, t => t = 0 ∨ t = 1 ∨ ∃ a t0 t1 : Nat, t = nd a t0 t1 ∧ Hle h t0 ∧ Hle h t1
theorem Hle.s {h t : Nat} : Hle h t → Hle (h + 1) t := by
  induction h generalizing t with
  | zero => intro q; rcases q with q | q; exact Or.inl q; exact Or.inr (Or.inl q)
  | succ h ih =>
    intro q
    rcases q with q | q | ⟨a, t0, t1, e, q0, q1⟩
    · exact Or.inl q
    · exact Or.inr (Or.inl q)
    · exact Or.inr (Or.inr ⟨a, t0, t1, e, ih q0, ih q1⟩)
theorem Hle.le {h h' t : Nat} (q : Hle h t) (hh : h ≤ h') : Hle h' t := by
  obtain ⟨d, rfl⟩ : ∃ d, h' = h + d := ⟨h' - h, by omega⟩
  induction d with
  | zero => exact q
  | succ d ih => exact (ih (by omega)).s
theorem hgt_ex (t : Nat) : ∃ h, Hle 4 t → h ≤ 4 ∧ Hle h t ∧ ∀ h', h' < h → ¬ Hle h' t := by
  by_cases h0 : Hle 0 t
  · exact ⟨0, fun _ => ⟨by omega, h0, fun _ q => by omega⟩⟩
  by_cases h1 : Hle 1 t
  · exact ⟨1, fun _ => ⟨by omega, h1, fun h' q => by rw [show h' = 0 by omega]; exact h0⟩⟩
  by_cases h2 : Hle 2 t
  · exact ⟨2, fun _ => ⟨by omega, h2, fun h' q z => h1 (z.le (by omega))⟩⟩
  by_cases h3 : Hle 3 t
  · exact ⟨3, fun _ => ⟨by omega, h3, fun h' q z => h2 (z.le (by omega))⟩⟩
  · exact ⟨4, fun h4 => ⟨by omega, h4, fun h' q z => h3 (z.le (by omega))⟩⟩
theorem tr_H {us : Nat → Int32 → Bool} {pt : Nat → Int32 → Int32 → Int32} {re : Int32 → Bool} : ∀ (m : Nat) (x : Int32), Hle m (tr us pt re m x) := by
  intro m
  induction m with
  | zero =>
    intro x
    by_cases hx : x = 0
    · rw [hx, tr_0]; exact Or.inl rfl
    · rw [tr_leaf hx (dcO_0 x)]; exact Or.inr rfl
  | succ m ih =>
    intro x
    by_cases hx : x = 0
    · rw [hx, tr_0]; exact Or.inl rfl
    · cases hd : dcO us pt re (m + 1) x with
      | none => rw [tr_leaf hx hd]; exact Or.inr (Or.inl rfl)
      | some a => rw [tr_node hd]; exact Or.inr (Or.inr ⟨a, _, _, rfl, ih _, ih _⟩)
theorem ins_H {us : Nat → Int32 → Bool} {pt : Nat → Int32 → Int32 → Int32} {re : Int32 → Bool} : ∀ (m : Nat) (x : Int32) (L : List Nat), m ≤ 4 → (∀ t ∈ L, Hle 4 t) → ∀ t ∈ insF us pt re m x L, Hle 4 t := by
  have app : ∀ (L : List Nat) (u : Nat), (∀ t ∈ L, Hle 4 t) → Hle 4 u → ∀ t ∈ L ++ [u], Hle 4 t := by
    intro L u hL hu t ht
    rcases List.mem_append.mp ht with z | z
    · exact hL t z
    · rw [List.mem_singleton.mp z]; exact hu
  intro m
  induction m with
  | zero =>
    intro x L hm hL
    by_cases hx : x = 0
    · rw [hx, ins_0]; exact hL
    by_cases h1 : (1 : Nat) ∈ L
    · rw [ins_mem (by rw [tr_leaf hx (dcO_0 x)]; exact h1)]; exact hL
    · rw [ins_leaf hx (dcO_0 x) h1]; exact app L 1 hL (Or.inr (Or.inl rfl))
  | succ m ih =>
    intro x L hm hL
    by_cases hx : x = 0
    · rw [hx, ins_0]; exact hL
    by_cases h1 : tr us pt re (m + 1) x ∈ L
    · rw [ins_mem h1]; exact hL
    cases hd : dcO us pt re (m + 1) x with
    | none => rw [ins_leaf hx hd (by rw [tr_leaf hx hd] at h1; exact h1)]; exact app L 1 hL (Or.inr (Or.inl rfl))
    | some a => rw [ins_node hd h1]; exact ih _ _ (by omega) (ih _ _ (by omega) (app L _ hL ((tr_H (m + 1) x).le hm)))
theorem kid_v {L : List Nat} {t : Nat} {v : Int32} (hL : L.length < 2 ^ 31) (h : kid L t v) : v = o2i (v2o v) ∧ ∀ j, v2o v = some j → L[j]? = some t := by
  rcases h with ⟨_, e⟩ | ⟨_, i, e1, e2, _⟩
  · rw [e]; exact ⟨rfl, fun j q => by cases q⟩
  · have := getq_lt e1
    rw [e2, v2o_at (by omega)]
    exact ⟨rfl, fun j q => by cases q; exact e1⟩
section PLN
variable {us us' : Nat → Int32 → Bool} {pt pt' : Nat → Int32 → Int32 → Int32} {re re' : Int32 → Bool} {n : Nat} {b : Int32} {bel dos num g na nf ns nm tc : Nat → Int32}
theorem plan_tbl (hag : agU us us' pt pt' re re') (hn : n ≤ 4) (hb0 : ¬ b = 0) (hb : is16 b) (hB : bldI us' pt' re' n b bel dos num 32) (hpos : ∀ k, 1 ≤ k → k < 32 → ¬ bel k = 0 → 0 < bel k)
    (hK : ∀ i k, (nrun bel dos (samN bel dos g) 31 [1] [])[i]? = some k → na i = dos k ∧ nf i = (if dos k < 0 ∨ bel (2 * k) = 0 then -1 else nm (samN bel dos g (2 * k))) ∧ ns i = (if dos k < 0 ∨ bel (2 * k + 1) = 0 then -1 else nm (samN bel dos g (2 * k + 1))) ∧ nm (samN bel dos g k) = nI i ∧ (1 ≤ k ∧ k < 32) ∧ 0 < bel k) :
    ∃ (c : Nat) (ta tp tq : Nat → Option Nat) (ht : Nat → Nat), 0 < c ∧ (grw (lea us pt re) re pt n b 0 tc).2.1 = c ∧ (nrun bel dos (samN bel dos g) 31 [1] []).length = c ∧ tbl c ta tp tq ht ∧ tOK (grw (lea us pt re) re pt n b 0 tc).2.2 c ta tp tq ∧ ∀ i, i < c → na i = o2i (ta i) ∧ nf i = o2i (tp i) ∧ ns i = o2i (tq i) := by
  obtain ⟨v, c, t2, g1, g2, g3, g4⟩ := grw_ok (us := us) (pt := pt) (re := re) n b [] tc (fun _ => False) hb0 (by show 0 + 2 ^ (n + 1) ≤ 32; exact pow32 hn) (fun i t hi => by cases hi) (fun i hi => hi.elim)
  have g1 : grw (lea us pt re) re pt n b 0 tc = (v, c, t2) := g1
  have hcnt := grw_cnt (le := lea us pt re) (re := re) (pt := pt) n b 0 tc
  rw [g1] at hcnt
  have hcnt : c + 1 ≤ 0 + 2 ^ (n + 1) := hcnt
  have hpw := pow32 hn
  have hc31 : c ≤ 31 := by omega
  have hrun := nrun_ok hB hn hpos g 31 [1] [] (fun k hk => by rw [List.mem_singleton.mp hk]; decide) (fun k hk => by cases hk) (by decide)
  have hL : (nrun bel dos (samN bel dos g) 31 [1] []).map (tK us' pt' re' n bel) = insF us pt re n b [] := by
    rw [hrun, ins_cg hag n b hb]
    show insF us' pt' re' (n - Nat.log2 1) (bel 1) [] = _
    rw [hB.1]
    rfl
  have hlen : (nrun bel dos (samN bel dos g) 31 [1] []).length = c := by rw [g2, ← hL, List.length_map]
  generalize hKe : nrun bel dos (samN bel dos g) 31 [1] [] = K at hK hL hlen
  generalize hLe : insF us pt re n b [] = L at g2 g3 g4 hL
  have hLl : L.length < 2 ^ 31 := by omega
  have hH : ∀ t ∈ L, Hle 4 t := by rw [← hLe]; exact ins_H n b [] hn (fun t ht => by cases ht)
  obtain ⟨hh, hhp⟩ := Classical.axiomOfChoice hgt_ex
  have hat : ∀ i, i < c → ∃ k t : Nat, K[i]? = some k ∧ L[i]? = some t ∧ tK us' pt' re' n bel k = t := by
    intro i hi
    obtain ⟨k, hk⟩ : ∃ k, K[i]? = some k := ⟨_, List.getElem?_eq_getElem (by omega)⟩
    exact ⟨k, tK us' pt' re' n bel k, hk, by rw [← hL, List.getElem?_map, hk]; rfl, rfl⟩
  have hrow : ∀ i t : Nat, L[i]? = some t → rowT L t (t2 (3 * i + 0)) (t2 (3 * i + 1)) (t2 (3 * i + 2)) := fun i t hi => (g3 i t hi).2 (fun q => q)
  -- a part's number in the reference
  have kidR : ∀ (q : Nat) (x : Int32) (t0 : Nat), 1 ≤ q → q < 32 → tK us' pt' re' n bel q = t0 → kid L t0 x → x = if bel q = 0 then -1 else nm (samN bel dos g q) := by
    intro q x t0 q1 q2 e hk
    by_cases bq : bel q = 0
    · rw [if_pos bq]
      rw [tK_0 bq] at e
      rcases hk with ⟨_, z⟩ | ⟨z, _⟩
      · exact z
      · exact absurd e.symm z
    · rw [if_neg bq]
      have := tK_n0 (us := us') (pt := pt') (re := re') (n := n) bq
      rcases hk with ⟨z, _⟩ | ⟨_, j, z1, z2, _⟩
      · omega
      · obtain ⟨k', t', f1, f2, f3⟩ := hat j (by have := getq_lt z1; omega)
        rw [z1] at f2
        have f2 : t0 = t' := Option.some.inj f2
        obtain ⟨_, _, _, h4, h5, h6⟩ := hK j k' f1
        have bk : ¬ bel k' = 0 := fun z => by rw [z] at h6; exact absurd h6 (by decide)
        have hs := (sam_iff hB hn hpos (g := g) h5.1 h5.2 q1 q2 bk bq).mpr (by rw [f3, ← f2, e])
        rw [z2, ← hs, h4]
  -- the reference's row is the class's
  have hrows : ∀ i, i < c → na i = t2 (3 * i + 0) ∧ nf i = t2 (3 * i + 1) ∧ ns i = t2 (3 * i + 2) := by
    intro i hi
    obtain ⟨k, t, f1, f2, f3⟩ := hat i hi
    obtain ⟨h1, h2, h3, h4, h5, h6⟩ := hK i k f1
    have bk : ¬ bel k = 0 := fun z => by rw [z] at h6; exact absurd h6 (by decide)
    rcases hrow i t f2 with ⟨r0, r1, r2, r3⟩ | ⟨a, s0, s1, a1, a2, a3, a4, a5⟩ <;> rcases tK_cases hB hn h5.1 h5.2 bk with ⟨_, d1, t1⟩ | ⟨a', _, b1, b2, d1, _, _, _, _, t1⟩
    · rw [h1, h2, h3, r1, r2, r3, d1, if_pos (Or.inl (by decide)), if_pos (Or.inl (by decide))]; exact ⟨rfl, rfl, rfl⟩
    · have := nd_ge a' (tK us' pt' re' n bel (2 * k)) (tK us' pt' re' n bel (2 * k + 1)); omega
    · have := nd_ge a s0 s1; omega
    · obtain ⟨z0, z1, z2⟩ := nd_inj (t1.symm.trans (f3.trans a2))
      have hnd : ¬ dos k < 0 := by rw [d1]; exact nI_ge0 (by omega)
      have e0 := kidR (2 * k) _ s0 (by omega) (by omega) z1 a4
      have e1 := kidR (2 * k + 1) _ s1 (by omega) (by omega) z2 a5
      refine ⟨by rw [h1, d1, a3, z0], ?_, ?_⟩
      · rw [h2, e0]
        by_cases bq : bel (2 * k) = 0
        · rw [if_pos (Or.inr bq), if_pos bq]
        · rw [if_neg (fun z => z.elim hnd bq), if_neg bq]
      · rw [h3, e1]
        by_cases bq : bel (2 * k + 1) = 0
        · rw [if_pos (Or.inr bq), if_pos bq]
        · rw [if_neg (fun z => z.elim hnd bq), if_neg bq]
  have hd : ∀ i t : Nat, L[i]? = some t → L.getD i 0 = t := fun i t h => by rw [List.getD_eq_getElem?_getD, h]; rfl
  -- options and bounds
  have hopt : ∀ i, i < c → ∃ t, L[i]? = some t ∧ t2 (3 * i + 0) = o2i (v2o (t2 (3 * i + 0))) ∧ t2 (3 * i + 1) = o2i (v2o (t2 (3 * i + 1))) ∧ t2 (3 * i + 2) = o2i (v2o (t2 (3 * i + 2))) ∧ (∀ a, v2o (t2 (3 * i + 0)) = some a → a < 8 ∧ 1 ≤ hh t) ∧ (∀ j, v2o (t2 (3 * i + 1)) = some j → j < c ∧ hh (L.getD j 0) < hh t) ∧ (∀ j, v2o (t2 (3 * i + 2)) = some j → j < c ∧ hh (L.getD j 0) < hh t) := by
    intro i hi
    obtain ⟨k, t, f1, f2, f3⟩ := hat i hi
    have htm := hH t (List.mem_of_getElem? f2)
    obtain ⟨q1, q2, q3⟩ := hhp t htm
    refine ⟨t, f2, ?_⟩
    rcases hrow i t f2 with ⟨r0, r1, r2, r3⟩ | ⟨a, s0, s1, a1, a2, a3, a4, a5⟩
    · rw [r1, r2, r3]
      exact ⟨rfl, rfl, rfl, (fun a z => by cases z), (fun j z => by cases z), (fun j z => by cases z)⟩
    · obtain ⟨e0, f0⟩ := kid_v hLl a4
      obtain ⟨e1, f1'⟩ := kid_v hLl a5
      have hge := nd_ge a s0 s1
      have h1 : 1 ≤ hh t := by
        rcases Nat.lt_or_ge 0 (hh t) with z | z
        · exact z
        · rw [show hh t = 0 by omega] at q2
          rcases q2 with z | z <;> omega
      have hlt : ∀ s, s = s0 ∨ s = s1 → hh s < hh t := by
        intro s hs
        obtain ⟨d, hd⟩ : ∃ d, hh t = d + 1 := ⟨hh t - 1, by omega⟩
        rw [hd] at q2
        rcases q2 with z | z | ⟨a', u0, u1, z, y0, y1⟩
        · omega
        · omega
        · obtain ⟨_, w0, w1⟩ := nd_inj (a2.symm.trans z)
          have hsd : Hle d s := by
            rcases hs with rfl | rfl
            · rw [w0]; exact y0
            · rw [w1]; exact y1
          obtain ⟨_, _, p3⟩ := hhp s (hsd.le (by omega))
          rcases Nat.lt_or_ge d (hh s) with x | x
          · exact absurd hsd (p3 d x)
          · omega
      rw [a3, v2o_at (by omega)]
      refine ⟨rfl, e0, e1, fun a z => by cases z; exact ⟨a1, h1⟩, fun j z => ?_, fun j z => ?_⟩
      · have := f0 j z
        exact ⟨by have := getq_lt this; omega, by rw [hd j s0 this]; exact hlt s0 (Or.inl rfl)⟩
      · have := f1' j z
        exact ⟨by have := getq_lt this; omega, by rw [hd j s1 this]; exact hlt s1 (Or.inr rfl)⟩
  refine ⟨c, fun i => v2o (t2 (3 * i + 0)), fun i => v2o (t2 (3 * i + 1)), fun i => v2o (t2 (3 * i + 2)), fun i => hh (L.getD i 0), ?_, by rw [g1], hlen, ⟨hc31, fun i hi => ?_⟩, ?_, fun i hi => ?_⟩
  · rw [g2]
    refine List.length_pos_of_mem (a := tr us pt re n b) ?_
    rw [← hLe]
    exact ins_in n b [] hb0
  · obtain ⟨t, o1, o2, o3, o4, o5, o6, o7⟩ := hopt i hi
    have e9 := hd i t o1
    subst e9
    exact ⟨(hhp _ (hH _ (List.mem_of_getElem? o1))).1, o5, o6, o7⟩
  · rw [g1]
    refine ⟨hc31, fun i hi => ?_⟩
    obtain ⟨t, o1, o2, o3, o4, o5, o6, o7⟩ := hopt i hi
    exact ⟨o2, o3, o4, fun a z => (o5 a z).1, fun j z => (o6 j z).1, fun j z => (o7 j z).1⟩
  · obtain ⟨t, o1, o2, o3, o4, _⟩ := hopt i hi
    obtain ⟨r1, r2, r3⟩ := hrows i hi
    exact ⟨r1.trans o2, r2.trans o3, r3.trans o4⟩
end PLN
