/-! ===== the class's table holds the numbered plans ===== -/
def rowT (L : List Nat) (t : Nat) (x0 x1 x2 : Int32) : Prop := (t = 1 ∧ x0 = -1 ∧ x1 = -1 ∧ x2 = -1) ∨ ∃ a t0 t1 : Nat, a < 8 ∧ t = nd a t0 t1 ∧ x0 = nI a ∧ kid L t0 x1 ∧ kid L t1 x2
def rep (L : List Nat) (tc : Nat → Int32) (U : Nat → Prop) : Prop := ∀ i t : Nat, L[i]? = some t → (U i → tc (3 * i + 0) = -2) ∧ (¬ U i → rowT L t (tc (3 * i + 0)) (tc (3 * i + 1)) (tc (3 * i + 2)))
theorem rowT.app {L : List Nat} {t : Nat} {x0 x1 x2 : Int32} (h : rowT L t x0 x1 x2) (S : List Nat) : rowT (L ++ S) t x0 x1 x2 := by
  rcases h with h | ⟨a, t0, t1, h1, h2, h3, h4, h5⟩
  · exact Or.inl h
  · exact Or.inr ⟨a, t0, t1, h1, h2, h3, h4.app S, h5.app S⟩
theorem rowT.back {L : List Nat} {u t : Nat} {x0 x1 x2 : Int32} (hu : u ∈ L) (h : rowT (L ++ [u]) t x0 x1 x2) : rowT L t x0 x1 x2 := by
  rcases h with h | ⟨a, t0, t1, h1, h2, h3, h4, h5⟩
  · exact Or.inl h
  · exact Or.inr ⟨a, t0, t1, h1, h2, h3, h4.back hu, h5.back hu⟩
theorem rep.loc {L : List Nat} {tc tc' : Nat → Int32} {U : Nat → Prop} (h : rep L tc U) (e : ∀ q, q < 3 * L.length → tc' q = tc q) : rep L tc' U := by
  intro i t hi
  have hl := getq_lt hi
  rw [e _ (by omega), e _ (by omega), e _ (by omega)]
  exact h i t hi
theorem rep.opn {L : List Nat} {tc : Nat → Int32} {U : Nat → Prop} (h : rep L tc U) (t : Nat) : rep (L ++ [t]) (upd tc (3 * L.length) (-2)) (fun i => U i ∨ i = L.length) := by
  intro i u hi
  rcases Nat.lt_or_ge i L.length with z | z
  · rw [getq_pre z] at hi
    rw [upd_ne (by omega), upd_ne (by omega), upd_ne (by omega)]
    obtain ⟨h1, h2⟩ := h i u hi
    exact ⟨fun q => q.elim h1 (fun e => absurd e (by omega)), fun q => (h2 (fun y => q (Or.inl y))).app [t]⟩
  · have hl := getq_lt hi
    rw [List.length_append, List.length_singleton] at hl
    obtain rfl : i = L.length := by omega
    exact ⟨fun _ => upd_eq, fun q => absurd (Or.inr rfl) q⟩
theorem up3_at (T : Nat → Int32) (n : Nat) (x0 x1 x2 : Int32) : upd (upd (upd T (3 * n) x0) (3 * n + 1) x1) (3 * n + 1 + 1) x2 (3 * n + 0) = x0 ∧ upd (upd (upd T (3 * n) x0) (3 * n + 1) x1) (3 * n + 1 + 1) x2 (3 * n + 1) = x1 ∧ upd (upd (upd T (3 * n) x0) (3 * n + 1) x1) (3 * n + 1 + 1) x2 (3 * n + 2) = x2 := by
  refine ⟨?_, ?_, upd_eq⟩
  · rw [upd_ne (by omega), upd_ne (by omega)]; exact upd_eq
  · rw [upd_ne (by omega), upd_eq]
theorem up3_ne (T : Nat → Int32) {n q : Nat} (x0 x1 x2 : Int32) (h : q < 3 * n ∨ 3 * n + 3 ≤ q) : upd (upd (upd T (3 * n) x0) (3 * n + 1) x1) (3 * n + 1 + 1) x2 q = T q := by
  rw [upd_ne (by omega), upd_ne (by omega), upd_ne (by omega)]
theorem clP_tr {tc : Nat → Int32} {x0 x1 x2 : Int32} {i : Nat} (h : clP tc x0 x1 x2 i = true) : tc (3 * i + 0) = x0 ∧ tc (3 * i + 1) = x1 ∧ tc (3 * i + 2) = x2 := by
  unfold clP at h
  rw [Bool.and_eq_true, Bool.and_eq_true, decide_eq_true_iff, decide_eq_true_iff, decide_eq_true_iff] at h
  exact ⟨h.1, h.2.1, h.2.2⟩
theorem nI_n1 {a : Nat} (h : a < 2 ^ 31) : ¬ nI a = -1 := fun e => by
  have h1 := nI_toInt (n := a) h
  rw [e] at h1
  have h2 : (-1 : Int32).toInt = -1 := rfl
  omega
theorem nI_n2 {a : Nat} (h : a < 2 ^ 31) : ¬ nI a = -2 := fun e => by
  have h1 := nI_toInt (n := a) h
  rw [e] at h1
  have h2 : (-2 : Int32).toInt = -2 := rfl
  omega
/-- a row that matches is the plan's -/
theorem match_leaf {L : List Nat} {tc : Nat → Int32} {U : Nat → Prop} (h : rep L tc U) {i t : Nat} (hi : L[i]? = some t) {x1 x2 : Int32} (hm : clP tc (-1) x1 x2 i = true) : t = 1 := by
  obtain ⟨e0, e1, e2⟩ := clP_tr hm
  obtain ⟨h1, h2⟩ := h i t hi
  have hU : ¬ U i := fun q => by rw [h1 q] at e0; exact absurd e0 (by decide)
  rcases h2 hU with ⟨q, _⟩ | ⟨a, t0, t1, a1, _, a3, _⟩
  · exact q
  · exact absurd (a3.symm.trans e0) (nI_n1 (by omega))
theorem match_node {L : List Nat} {tc : Nat → Int32} {U : Nat → Prop} (h : rep L tc U) (hL : L.length < 2 ^ 31) {i t a t0 t1 : Nat} {r0 r1 : Int32} (hi : L[i]? = some t) (ha : a < 8) (k0 : kid L t0 r0) (k1 : kid L t1 r1) (hm : clP tc (nI a) r0 r1 i = true) : t = nd a t0 t1 := by
  obtain ⟨e0, e1, e2⟩ := clP_tr hm
  obtain ⟨h1, h2⟩ := h i t hi
  have hU : ¬ U i := fun q => by rw [h1 q] at e0; exact absurd e0.symm (nI_n2 (by omega))
  rcases h2 hU with ⟨_, q, _⟩ | ⟨b, s0, s1, b1, b2, b3, b4, b5⟩
  · exact absurd (e0.symm.trans q) (nI_n1 (by omega))
  · have e3 : b = a := nI_inj (by omega) (by omega) (b3.symm.trans e0)
    rw [e1] at b4
    rw [e2] at b5
    rw [b2, e3, b4.inj hL k0, b5.inj hL k1]
theorem cloN_some {n c : Nat} {tc : Nat → Int32} {x0 x1 x2 : Int32} {i : Nat} (h : (List.range n).find? (clP tc x0 x1 x2) = some i) : cloN n c tc x0 x1 x2 = (nI i, n, tc) := by unfold cloN; rw [h]
theorem cloN_none {n c : Nat} {tc : Nat → Int32} {x0 x1 x2 : Int32} (h : (List.range n).find? (clP tc x0 x1 x2) = none) : cloN n c tc x0 x1 x2 = (nI n, c, upd (upd (upd tc (3 * n) x0) (3 * n + 1) x1) (3 * n + 1 + 1) x2) := by unfold cloN; rw [h]
theorem not_t {b : Bool} (h : ¬ b = true) : b = false := by cases b; rfl; exact absurd rfl h
theorem leaf_ok {L L' : List Nat} {tc : Nat → Int32} {U : Nat → Prop} (h : rep L tc U) (hU : ∀ i, U i → ∃ t', L[i]? = some t' ∧ 1 < t') (hL' : L' = if 1 ∈ L then L else L ++ [1]) :
    ∃ v c' tc', cloN L.length (L.length + 1) (upd tc (3 * L.length) (-2)) (-1) (-1) (-1) = (v, c', tc') ∧ c' = L'.length ∧ rep L' tc' U ∧ kid L' 1 v := by
  have h1 : rep L (upd tc (3 * L.length) (-2)) U := h.loc fun q hq => upd_ne (by omega)
  by_cases hm : 1 ∈ L
  · rw [if_pos hm] at hL'
    obtain ⟨i, e1, e2⟩ := first_at hm
    have hi := getq_lt e1
    have hnU : ¬ U i := fun q => by
      obtain ⟨t', f1, f2⟩ := hU i q
      rw [e1] at f1
      cases f1
      omega
    have hf : (List.range L.length).find? (clP (upd tc (3 * L.length) (-2)) (-1) (-1) (-1)) = some i := by
      refine find_at hi ?_ fun j hj => not_t fun q => ?_
      · rcases (h1 i 1 e1).2 hnU with ⟨_, a0, a1, a2⟩ | ⟨a, t0, t1, _, a2, _⟩
        · exact clP_t a0 a1 a2
        · have := nd_ge a t0 t1; omega
      · obtain ⟨t', ht'⟩ : ∃ t', L[j]? = some t' := ⟨_, List.getElem?_eq_getElem (by omega)⟩
        exact e2 j hj (by rw [ht', match_leaf h1 ht' q])
    exact ⟨_, _, _, cloN_some hf, by rw [hL'], by rw [hL']; exact h1, by rw [hL']; exact Or.inr ⟨by decide, i, e1, rfl, e2⟩⟩
  · rw [if_neg hm] at hL'
    have hf : (List.range L.length).find? (clP (upd tc (3 * L.length) (-2)) (-1) (-1) (-1)) = none := by
      refine find_no fun j hj => not_t fun q => ?_
      obtain ⟨t', ht'⟩ : ∃ t', L[j]? = some t' := ⟨_, List.getElem?_eq_getElem hj⟩
      exact hm (by rw [← match_leaf h1 ht' q]; exact List.mem_of_getElem? ht')
    refine ⟨_, _, _, cloN_none hf, by rw [hL', List.length_append, List.length_singleton], ?_, ?_⟩
    · rw [hL']
      intro i t hi
      rcases Nat.lt_or_ge i L.length with z | z
      · rw [getq_pre z] at hi
        rw [up3_ne _ _ _ _ (Or.inl (by omega)), up3_ne _ _ _ _ (Or.inl (by omega)), up3_ne _ _ _ _ (Or.inl (by omega))]
        exact ⟨(h1 i t hi).1, fun q => ((h1 i t hi).2 q).app [1]⟩
      · have hl := getq_lt hi
        rw [List.length_append, List.length_singleton] at hl
        obtain rfl : i = L.length := by omega
        obtain ⟨u0, u1, u2⟩ := up3_at (upd tc (3 * L.length) (-2)) L.length (-1) (-1) (-1)
        rw [List.getElem?_append_right (Nat.le_refl _), Nat.sub_self] at hi
        have ht : 1 = t := Option.some.inj hi
        refine ⟨fun q => ?_, fun _ => Or.inl ⟨ht.symm, u0, u1, u2⟩⟩
        obtain ⟨t', f1, _⟩ := hU _ q
        exact absurd (getq_lt f1) (by omega)
    · rw [hL']
      refine Or.inr ⟨by decide, L.length, by rw [List.getElem?_append_right (Nat.le_refl _), Nat.sub_self]; rfl, rfl, fun j hj q => ?_⟩
      rw [getq_pre hj] at q
      exact hm (List.mem_of_getElem? q)
section GRWOK
variable {us : Nat → Int32 → Bool} {pt : Nat → Int32 → Int32 → Int32} {re : Int32 → Bool}
theorem dc_le {m : Nat} {x : Int32} (hx : ¬ x = 0) : (if re x = true then none else lea us pt re m x) = dcO us pt re m x := by
  unfold dcO
  by_cases hr : re x = true
  · rw [if_pos hr, if_pos (Or.inr hr)]
  · rw [if_neg hr, if_neg (fun q => q.elim hx hr)]
theorem grw_ok : ∀ (m : Nat) (x : Int32) (L : List Nat) (tc : Nat → Int32) (U : Nat → Prop), ¬ x = 0 → L.length + 2 ^ (m + 1) ≤ 32 → rep L tc U → (∀ i, U i → ∃ t', L[i]? = some t' ∧ tr us pt re m x < t') →
    ∃ v c' tc', grw (lea us pt re) re pt m x L.length tc = (v, c', tc') ∧ c' = (insF us pt re m x L).length ∧ rep (insF us pt re m x L) tc' U ∧ kid (insF us pt re m x L) (tr us pt re m x) v := by
  intro m
  induction m with
  | zero =>
    intro x L tc U hx hlen h hU
    rw [tr_leaf hx (dcO_0 x)] at hU ⊢
    rw [grw_leaf (by rw [dc_le hx]; exact dcO_0 x)]
    refine leaf_ok h hU ?_
    by_cases hm : 1 ∈ L
    · rw [if_pos hm]; exact ins_mem (by rw [tr_leaf hx (dcO_0 x)]; exact hm)
    · rw [if_neg hm]; exact ins_leaf hx (dcO_0 x) hm
  | succ m ih =>
    intro x L tc U hx hlen h hU
    cases hd : dcO us pt re (m + 1) x with
    | none =>
      rw [tr_leaf hx hd] at hU ⊢
      rw [grw_leaf (by rw [dc_le hx]; exact hd)]
      refine leaf_ok h hU ?_
      by_cases hm : 1 ∈ L
      · rw [if_pos hm]; exact ins_mem (by rw [tr_leaf hx hd]; exact hm)
      · rw [if_neg hm]; exact ins_leaf hx hd hm
    | some a =>
      have h2p : 2 ^ (m + 1 + 1) = 2 ^ (m + 1) + 2 ^ (m + 1) := by rw [Nat.pow_succ]; omega
      have h1p : 1 ≤ 2 ^ (m + 1) := Nat.one_le_two_pow
      obtain ⟨ha, _, hre, hle⟩ := dcO_lt hd
      have ht := tr_node hd
      -- a part
      have part : ∀ (p : Int32) (L2 : List Nat) (tc2 : Nat → Int32), L2.length + 2 ^ (m + 1) ≤ 32 → rep L2 tc2 (fun i => U i ∨ i = L.length) → (∀ i, (U i ∨ i = L.length) → ∃ t', L2[i]? = some t' ∧ tr us pt re m p < t') →
          ∃ v c' tc', grwP (lea us pt re) re pt m p L2.length tc2 = (v, c', tc') ∧ c' = (insF us pt re m p L2).length ∧ rep (insF us pt re m p L2) tc' (fun i => U i ∨ i = L.length) ∧ kid (insF us pt re m p L2) (tr us pt re m p) v := by
        intro p L2 tc2 hl2 hr2 hU2
        unfold grwP
        by_cases hp : p = 0
        · rw [if_pos hp, hp, ins_0, tr_0]
          exact ⟨_, _, _, rfl, rfl, hr2, Or.inl ⟨rfl, rfl⟩⟩
        · rw [if_neg hp]
          exact ih p L2 tc2 _ hp hl2 hr2 hU2
      have cntP := grwP_cnt (le := lea us pt re) (re := re) (pt := pt)
      have hop := h.opn (tr us pt re (m + 1) x)
      have hL1 : (L ++ [tr us pt re (m + 1) x]).length = L.length + 1 := by rw [List.length_append, List.length_singleton]
      have open1 : ∀ s, s < tr us pt re (m + 1) x → ∀ S, ∀ i, (U i ∨ i = L.length) → ∃ t', ((L ++ [tr us pt re (m + 1) x]) ++ S)[i]? = some t' ∧ s < t' := by
        intro s hs S i hi
        rcases hi with hi | rfl
        · obtain ⟨t', f1, f2⟩ := hU i hi
          have := getq_lt f1
          exact ⟨t', by rw [getq_pre (by rw [hL1]; omega), getq_pre this]; exact f1, by omega⟩
        · exact ⟨_, by rw [getq_pre (by rw [hL1]; omega), List.getElem?_append_right (Nat.le_refl _), Nat.sub_self]; rfl, hs⟩
      have lt0 : tr us pt re m (pt a x 0) < tr us pt re (m + 1) x := by rw [ht]; exact nd_lt0 _ _ _
      have lt1 : tr us pt re m (pt a x 1) < tr us pt re (m + 1) x := by rw [ht]; exact nd_lt1 _ _ _
      obtain ⟨v0, c0, t0, g0, e0, r0, k0⟩ := part (pt a x 0) (L ++ [tr us pt re (m + 1) x]) (upd tc (3 * L.length) (-2)) (by rw [hL1]; omega) hop (fun i hi => by have := open1 _ lt0 [] i hi; rwa [List.append_nil] at this)
      obtain ⟨S0, p0⟩ := ins_pre (us := us) (pt := pt) (re := re) m (pt a x 0) (L ++ [tr us pt re (m + 1) x])
      have n0 := cntP m (pt a x 0) (L.length + 1) (upd tc (3 * L.length) (-2))
      rw [← hL1, g0] at n0
      have n0 : c0 + 1 ≤ (L ++ [tr us pt re (m + 1) x]).length + 2 ^ (m + 1) := n0
      obtain ⟨v1, c1, t1, g1, e1, r1, k1⟩ := part (pt a x 1) (insF us pt re m (pt a x 0) (L ++ [tr us pt re (m + 1) x])) t0 (by rw [← e0]; rw [hL1] at n0; omega) r0 (fun i hi => by rw [p0]; exact open1 _ lt1 S0 i hi)
      obtain ⟨S1, p1⟩ := ins_pre (us := us) (pt := pt) (re := re) m (pt a x 1) (insF us pt re m (pt a x 0) (L ++ [tr us pt re (m + 1) x]))
      have n1 := cntP m (pt a x 1) c0 t0
      rw [e0, g1] at n1
      have n1 : c1 + 1 ≤ (insF us pt re m (pt a x 0) (L ++ [tr us pt re (m + 1) x])).length + 2 ^ (m + 1) := n1
      have hgr : grw (lea us pt re) re pt (m + 1) x L.length tc = cloN L.length c1 t1 (nI a) v0 v1 := grw_node hre hle (by rw [← hL1]; exact g0) (by rw [e0]; exact g1)
      have hbig : c1 ≤ 31 := by rw [hL1] at n0; rw [← e0] at n1; omega
      rw [hgr]
      have k0' : kid (insF us pt re m (pt a x 1) (insF us pt re m (pt a x 0) (L ++ [tr us pt re (m + 1) x]))) (tr us pt re m (pt a x 0)) v0 := by rw [p1]; exact k0.app S1
      have hpre : insF us pt re m (pt a x 1) (insF us pt re m (pt a x 0) (L ++ [tr us pt re (m + 1) x])) = L ++ ([tr us pt re (m + 1) x] ++ S0 ++ S1) := by rw [p1, p0, List.append_assoc, List.append_assoc, List.append_assoc]
      have hat : ∀ i, i < L.length → (insF us pt re m (pt a x 1) (insF us pt re m (pt a x 0) (L ++ [tr us pt re (m + 1) x])))[i]? = L[i]? := fun i hi => by rw [hpre]; exact getq_pre hi
      have hmt : ∀ i, i < L.length → clP t1 (nI a) v0 v1 i = true → L[i]? = some (tr us pt re (m + 1) x) := by
        intro i hi q
        obtain ⟨t', ht'⟩ : ∃ t', L[i]? = some t' := ⟨_, List.getElem?_eq_getElem hi⟩
        rw [ht', ht]
        exact congrArg some (match_node r1 (by rw [← e1]; omega) (by rw [hat i hi]; exact ht') ha k0' k1 q)
      have hUlt : ∀ i, U i → i < L.length := fun i q => by obtain ⟨t', f1, _⟩ := hU i q; exact getq_lt f1
      by_cases hm : tr us pt re (m + 1) x ∈ L
      · -- it is there already
        obtain ⟨i, f1, f2⟩ := first_at hm
        have hi := getq_lt f1
        have hnU : ¬ (U i ∨ i = L.length) := fun q => q.elim (fun q => by obtain ⟨t', z1, z2⟩ := hU i q; rw [f1] at z1; cases z1; omega) (fun q => by omega)
        have hrow := (h i _ f1).2 (fun q => hnU (Or.inl q))
        have hin : (tr us pt re m (pt a x 0) = 0 ∨ tr us pt re m (pt a x 0) ∈ L) ∧ (tr us pt re m (pt a x 1) = 0 ∨ tr us pt re m (pt a x 1) ∈ L) := by
          rcases hrow with ⟨q, _⟩ | ⟨b, s0, s1, b1, b2, b3, b4, b5⟩
          · rw [ht] at q; have := nd_ge a (tr us pt re m (pt a x 0)) (tr us pt re m (pt a x 1)); omega
          · rw [ht] at b2
            obtain ⟨_, z1, z2⟩ := nd_inj b2
            rw [← z1] at b4
            rw [← z2] at b5
            refine ⟨?_, ?_⟩
            · rcases b4 with ⟨q, _⟩ | ⟨_, j, q, _⟩
              · exact Or.inl q
              · exact Or.inr (List.mem_of_getElem? q)
            · rcases b5 with ⟨q, _⟩ | ⟨_, j, q, _⟩
              · exact Or.inl q
              · exact Or.inr (List.mem_of_getElem? q)
        have same : ∀ p, (tr us pt re m p = 0 ∨ tr us pt re m p ∈ L) → insF us pt re m p (L ++ [tr us pt re (m + 1) x]) = L ++ [tr us pt re (m + 1) x] := by
          intro p hp
          rcases hp with q | q
          · by_cases hp0 : p = 0
            · rw [hp0]; exact ins_0 m _
            · have := tr_ne (us := us) (pt := pt) (re := re) (m := m) hp0; omega
          · exact ins_mem (List.mem_append_left _ q)
        have s0 := same _ hin.1
        have s1 := same _ hin.2
        rw [s0, s1] at r1 k1 k0' e1
        have hf : (List.range L.length).find? (clP t1 (nI a) v0 v1) = some i := by
          refine find_at hi ?_ fun j hj => not_t fun q => f2 j hj (hmt j (by omega) q)
          have hr := (r1 i _ (by rw [getq_pre hi]; exact f1)).2 hnU
          rcases hr with ⟨q, _⟩ | ⟨b, s0, s1, b1, b2, b3, b4, b5⟩
          · rw [ht] at q; have := nd_ge a (tr us pt re m (pt a x 0)) (tr us pt re m (pt a x 1)); omega
          · have b2' := b2
            rw [ht] at b2'
            obtain ⟨z0, z1, z2⟩ := nd_inj b2'
            rw [← z1] at b4
            rw [← z2] at b5
            exact clP_t (by rw [b3, z0]) (b4.fn k0') (b5.fn k1)
        refine ⟨_, _, _, cloN_some hf, by rw [ins_mem hm], ?_, ?_⟩
        · rw [ins_mem hm]
          intro j u hj
          have hjl := getq_lt hj
          obtain ⟨q1, q2⟩ := r1 j u (by rw [getq_pre hjl]; exact hj)
          exact ⟨fun q => q1 (Or.inl q), fun q => (q2 (fun z => z.elim q (fun z => by omega))).back hm⟩
        · rw [ins_mem hm]
          exact Or.inr ⟨by have := tr_ne (us := us) (pt := pt) (re := re) (m := m + 1) hx; omega, i, f1, rfl, f2⟩
      · -- a new one
        have hf : (List.range L.length).find? (clP t1 (nI a) v0 v1) = none := find_no fun j hj => not_t fun q => hm (List.mem_of_getElem? (hmt j hj q))
        refine ⟨_, _, _, cloN_none hf, by rw [ins_node hd hm]; exact e1, ?_, ?_⟩
        · rw [ins_node hd hm]
          intro j u hj
          by_cases hjc : j = L.length
          · subst hjc
            obtain ⟨u0, u1, u2⟩ := up3_at t1 L.length (nI a) v0 v1
            have hu : (insF us pt re m (pt a x 1) (insF us pt re m (pt a x 0) (L ++ [tr us pt re (m + 1) x])))[L.length]? = some (tr us pt re (m + 1) x) := by rw [hpre, List.getElem?_append_right (Nat.le_refl _), Nat.sub_self]; rfl
            rw [hu] at hj
            have hj : tr us pt re (m + 1) x = u := Option.some.inj hj
            refine ⟨fun q => absurd (hUlt _ q) (by omega), fun _ => Or.inr ⟨a, _, _, ha, hj ▸ ht, u0, by rw [u1]; exact k0', by rw [u2]; exact k1⟩⟩
          · rw [up3_ne _ _ _ _ (by omega), up3_ne _ _ _ _ (by omega), up3_ne _ _ _ _ (by omega)]
            obtain ⟨q1, q2⟩ := r1 j u hj
            exact ⟨fun q => q1 (Or.inl q), fun q => q2 (fun z => z.elim q hjc)⟩
        · rw [ins_node hd hm]
          refine Or.inr ⟨by have := tr_ne (us := us) (pt := pt) (re := re) (m := m + 1) hx; omega, L.length, by rw [hpre, List.getElem?_append_right (Nat.le_refl _), Nat.sub_self]; rfl, rfl, fun j hj q => ?_⟩
          rw [hat j hj] at q
          exact hm (List.mem_of_getElem? q)
end GRWOK
