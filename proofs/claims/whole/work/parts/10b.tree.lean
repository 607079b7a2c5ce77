/-! ===== plans as numbers: 0 nothing, 1 a leaf, a node by its action and its parts ===== -/
def pr2 (x y : Nat) : Nat := 2 ^ x * (2 * y + 1)
theorem pr2_s (x y : Nat) : pr2 (x + 1) y = 2 * pr2 x y := by unfold pr2; rw [Nat.pow_succ, Nat.mul_comm (2 ^ x) 2, Nat.mul_assoc]
theorem pr2_z (y : Nat) : pr2 0 y = 2 * y + 1 := by unfold pr2; rw [Nat.pow_zero, Nat.one_mul]
theorem pr2_inj : ∀ {x y x' y' : Nat}, pr2 x y = pr2 x' y' → x = x' ∧ y = y' := by
  intro x
  induction x with
  | zero =>
    intro y x' y' h
    cases x' with
    | zero => rw [pr2_z, pr2_z] at h; exact ⟨rfl, by omega⟩
    | succ k => rw [pr2_z, pr2_s] at h; omega
  | succ x ih =>
    intro y x' y' h
    cases x' with
    | zero => rw [pr2_z, pr2_s] at h; omega
    | succ k =>
      rw [pr2_s, pr2_s] at h
      have := ih (show pr2 x y = pr2 k y' by omega)
      exact ⟨by omega, this.2⟩
theorem pr2_lt1 (x y : Nat) : x < pr2 x y := by
  have h1 : x < 2 ^ x := Nat.lt_two_pow_self
  have h2 : 2 ^ x * 1 ≤ 2 ^ x * (2 * y + 1) := Nat.mul_le_mul_left _ (by omega)
  unfold pr2
  omega
theorem pr2_lt2 (x y : Nat) : y < pr2 x y := by
  have h1 : 1 ≤ 2 ^ x := Nat.one_le_two_pow
  have h2 : 1 * (2 * y + 1) ≤ 2 ^ x * (2 * y + 1) := Nat.mul_le_mul_right _ h1
  unfold pr2
  omega
def nd (a t0 t1 : Nat) : Nat := pr2 a (pr2 t0 t1) + 2
theorem nd_inj {a t0 t1 b s0 s1 : Nat} (h : nd a t0 t1 = nd b s0 s1) : a = b ∧ t0 = s0 ∧ t1 = s1 := by
  unfold nd at h
  obtain ⟨e1, e2⟩ := pr2_inj (show pr2 a (pr2 t0 t1) = pr2 b (pr2 s0 s1) by omega)
  obtain ⟨e3, e4⟩ := pr2_inj e2
  exact ⟨e1, e3, e4⟩
theorem nd_lt0 (a t0 t1 : Nat) : t0 < nd a t0 t1 := by
  have h1 := pr2_lt1 t0 t1
  have h2 := pr2_lt2 a (pr2 t0 t1)
  unfold nd
  omega
theorem nd_lt1 (a t0 t1 : Nat) : t1 < nd a t0 t1 := by
  have h1 := pr2_lt2 t0 t1
  have h2 := pr2_lt2 a (pr2 t0 t1)
  unfold nd
  omega
theorem nd_ge (a t0 t1 : Nat) : 2 ≤ nd a t0 t1 := by unfold nd; omega
def tr (us : Nat → Int32 → Bool) (pt : Nat → Int32 → Int32 → Int32) (re : Int32 → Bool) : Nat → Int32 → Nat
  | 0, x => if x = 0 then 0 else 1
  | m + 1, x => if x = 0 then 0 else match dcO us pt re (m + 1) x with
    | none => 1
    | some a => nd a (tr us pt re m (pt a x 0)) (tr us pt re m (pt a x 1))
def insF (us : Nat → Int32 → Bool) (pt : Nat → Int32 → Int32 → Int32) (re : Int32 → Bool) : Nat → Int32 → List Nat → List Nat
  | 0, x, L => if x = 0 then L else if 1 ∈ L then L else L ++ [1]
  | m + 1, x, L => if x = 0 then L else if tr us pt re (m + 1) x ∈ L then L else match dcO us pt re (m + 1) x with
    | none => L ++ [1]
    | some a => insF us pt re m (pt a x 1) (insF us pt re m (pt a x 0) (L ++ [tr us pt re (m + 1) x]))
section TR
variable {us us' : Nat → Int32 → Bool} {pt pt' : Nat → Int32 → Int32 → Int32} {re re' : Int32 → Bool}
theorem dcO_0 (x : Int32) : dcO us pt re 0 x = none := by unfold dcO; split <;> rfl
theorem tr_0 (m : Nat) : tr us pt re m 0 = 0 := by cases m <;> rfl
theorem tr_leaf {m : Nat} {x : Int32} (hx : ¬ x = 0) (h : dcO us pt re m x = none) : tr us pt re m x = 1 := by
  cases m with
  | zero => unfold tr; rw [if_neg hx]
  | succ m => unfold tr; rw [if_neg hx, h]
theorem tr_node {m : Nat} {x : Int32} {a : Nat} (h : dcO us pt re (m + 1) x = some a) : tr us pt re (m + 1) x = nd a (tr us pt re m (pt a x 0)) (tr us pt re m (pt a x 1)) := by
  rw [tr, if_neg (dcO_lt h).2.1, h]
theorem tr_ne {m : Nat} {x : Int32} (hx : ¬ x = 0) : 1 ≤ tr us pt re m x := by
  cases h : dcO us pt re m x with
  | none => rw [tr_leaf hx h]; exact Nat.le_refl 1
  | some a =>
    cases m with
    | zero => rw [dcO_0] at h; cases h
    | succ m => rw [tr_node h]; have := nd_ge a (tr us pt re m (pt a x 0)) (tr us pt re m (pt a x 1)); omega
theorem ins_0 (m : Nat) (L : List Nat) : insF us pt re m 0 L = L := by cases m <;> rfl
theorem ins_mem {m : Nat} {x : Int32} {L : List Nat} (h : tr us pt re m x ∈ L) : insF us pt re m x L = L := by
  by_cases hx : x = 0
  · rw [hx]; exact ins_0 m L
  · cases m with
    | zero => unfold insF; rw [if_neg hx, if_pos (by rw [tr_leaf hx (dcO_0 x)] at h; exact h)]
    | succ m => unfold insF; rw [if_neg hx, if_pos h]
theorem ins_leaf {m : Nat} {x : Int32} {L : List Nat} (hx : ¬ x = 0) (hd : dcO us pt re m x = none) (h : ¬ 1 ∈ L) : insF us pt re m x L = L ++ [1] := by
  cases m with
  | zero => unfold insF; rw [if_neg hx, if_neg h]
  | succ m => unfold insF; rw [if_neg hx, if_neg (by rw [tr_leaf hx hd]; exact h), hd]
theorem ins_node {m : Nat} {x : Int32} {L : List Nat} {a : Nat} (hd : dcO us pt re (m + 1) x = some a) (h : ¬ tr us pt re (m + 1) x ∈ L) : insF us pt re (m + 1) x L = insF us pt re m (pt a x 1) (insF us pt re m (pt a x 0) (L ++ [tr us pt re (m + 1) x])) := by
  rw [insF, if_neg (dcO_lt hd).2.1, if_neg h, hd]
theorem tr_cg (h : agU us us' pt pt' re re') : ∀ (m : Nat) (x : Int32), is16 x → tr us pt re m x = tr us' pt' re' m x := by
  intro m
  induction m with
  | zero => intro x _; rfl
  | succ m ih =>
    intro x hx
    by_cases h0 : x = 0
    · rw [h0, tr_0, tr_0]
    cases hd : dcO us pt re (m + 1) x with
    | none => rw [tr_leaf h0 hd, tr_leaf h0 (by rw [← dcO_cg h (m + 1) x hx]; exact hd)]
    | some a =>
      have ha := (dcO_lt hd).1
      have hu := dcO_us hd
      obtain ⟨e0, i0⟩ := h.2.1 a ha x hx hu 0 (Or.inl rfl)
      obtain ⟨e1, i1⟩ := h.2.1 a ha x hx hu 1 (Or.inr rfl)
      rw [tr_node hd, tr_node (show dcO us' pt' re' (m + 1) x = some a by rw [← dcO_cg h (m + 1) x hx]; exact hd), ih _ i0, ih _ i1, e0, e1]
theorem ins_cg (h : agU us us' pt pt' re re') : ∀ (m : Nat) (x : Int32), is16 x → ∀ L, insF us pt re m x L = insF us' pt' re' m x L := by
  intro m
  induction m with
  | zero => intro x _ L; rfl
  | succ m ih =>
    intro x hx L
    have ht := tr_cg h (m + 1) x hx
    by_cases h0 : x = 0
    · rw [h0, ins_0, ins_0]
    by_cases hm : tr us pt re (m + 1) x ∈ L
    · rw [ins_mem hm, ins_mem (by rw [← ht]; exact hm)]
    cases hd : dcO us pt re (m + 1) x with
    | none =>
      have h1 : ¬ 1 ∈ L := by rw [tr_leaf h0 hd] at hm; exact hm
      rw [ins_leaf h0 hd h1, ins_leaf h0 (by rw [← dcO_cg h (m + 1) x hx]; exact hd) h1]
    | some a =>
      have ha := (dcO_lt hd).1
      have hu := dcO_us hd
      obtain ⟨e0, i0⟩ := h.2.1 a ha x hx hu 0 (Or.inl rfl)
      obtain ⟨e1, i1⟩ := h.2.1 a ha x hx hu 1 (Or.inr rfl)
      rw [ins_node hd hm, ins_node (show dcO us' pt' re' (m + 1) x = some a by rw [← dcO_cg h (m + 1) x hx]; exact hd) (by rw [← ht]; exact hm), ih _ i0, ih _ i1, e0, e1, ht]
theorem ins_pre : ∀ (m : Nat) (x : Int32) (L : List Nat), ∃ S, insF us pt re m x L = L ++ S := by
  intro m
  induction m with
  | zero =>
    intro x L
    by_cases h0 : x = 0
    · exact ⟨[], by rw [h0, ins_0, List.append_nil]⟩
    by_cases hm : (1 : Nat) ∈ L
    · exact ⟨[], by rw [ins_mem (by rw [tr_leaf h0 (dcO_0 x)]; exact hm), List.append_nil]⟩
    · exact ⟨[1], ins_leaf h0 (dcO_0 x) hm⟩
  | succ m ih =>
    intro x L
    by_cases h0 : x = 0
    · exact ⟨[], by rw [h0, ins_0, List.append_nil]⟩
    by_cases hm : tr us pt re (m + 1) x ∈ L
    · exact ⟨[], by rw [ins_mem hm, List.append_nil]⟩
    cases hd : dcO us pt re (m + 1) x with
    | none => exact ⟨[1], ins_leaf h0 hd (by rw [tr_leaf h0 hd] at hm; exact hm)⟩
    | some a =>
      obtain ⟨S0, e0⟩ := ih (pt a x 0) (L ++ [tr us pt re (m + 1) x])
      obtain ⟨S1, e1⟩ := ih (pt a x 1) (insF us pt re m (pt a x 0) (L ++ [tr us pt re (m + 1) x]))
      exact ⟨[tr us pt re (m + 1) x] ++ S0 ++ S1, by rw [ins_node hd hm, e1, e0, List.append_assoc, List.append_assoc, List.append_assoc]⟩
theorem ins_in (m : Nat) (x : Int32) (L : List Nat) (h0 : ¬ x = 0) : tr us pt re m x ∈ insF us pt re m x L := by
  by_cases hm : tr us pt re m x ∈ L
  · rw [ins_mem hm]; exact hm
  cases hd : dcO us pt re m x with
  | none =>
    rw [tr_leaf h0 hd] at hm ⊢
    rw [ins_leaf h0 hd hm]
    exact List.mem_append_right _ (List.mem_singleton_self _)
  | some a =>
    cases m with
    | zero => rw [dcO_0] at hd; cases hd
    | succ m =>
      rw [ins_node hd hm]
      obtain ⟨S0, e0⟩ := ins_pre (us := us) (pt := pt) (re := re) m (pt a x 0) (L ++ [tr us pt re (m + 1) x])
      obtain ⟨S1, e1⟩ := ins_pre (us := us) (pt := pt) (re := re) m (pt a x 1) (insF us pt re m (pt a x 0) (L ++ [tr us pt re (m + 1) x]))
      rw [e1, e0]
      exact List.mem_append_left _ (List.mem_append_left _ (List.mem_append_right _ (List.mem_singleton_self _)))
end TR
/-- the place of a plan among the numbered ones -/
def kid (L : List Nat) (t : Nat) (v : Int32) : Prop := (t = 0 ∧ v = -1) ∨ (¬ t = 0 ∧ ∃ i : Nat, L[i]? = some t ∧ v = nI i ∧ ∀ j : Nat, j < i → ¬ L[j]? = some t)
theorem first_at {L : List Nat} {t : Nat} (h : t ∈ L) : ∃ i : Nat, L[i]? = some t ∧ ∀ j : Nat, j < i → ¬ L[j]? = some t := by
  induction L with
  | nil => cases h
  | cons u L ih =>
    by_cases hu : u = t
    · exact ⟨0, by rw [hu]; rfl, fun j hj => absurd hj (by omega)⟩
    · rcases List.mem_cons.mp h with e | e
      · exact absurd e.symm hu
      · obtain ⟨i, e1, e2⟩ := ih e
        refine ⟨i + 1, e1, fun j hj => ?_⟩
        cases j with
        | zero => exact fun q => hu (Option.some.inj q)
        | succ j => exact e2 j (by omega)
theorem getq_ltN {L : List Nat} {i t : Nat} (h : L[i]? = some t) : i < L.length := getq_lt h
theorem getq_pre {L S : List Nat} {i : Nat} (h : i < L.length) : (L ++ S)[i]? = L[i]? := List.getElem?_append_left h
theorem kid.app {L : List Nat} {t : Nat} {v : Int32} (h : kid L t v) (S : List Nat) : kid (L ++ S) t v := by
  rcases h with h | ⟨h0, i, e1, e2, e3⟩
  · exact Or.inl h
  · have hi := getq_lt e1
    exact Or.inr ⟨h0, i, by rw [getq_pre hi]; exact e1, e2, fun j hj => by rw [getq_pre (by omega)]; exact e3 j hj⟩
theorem kid.fn {L : List Nat} {t : Nat} {v v' : Int32} (h : kid L t v) (h' : kid L t v') : v = v' := by
  rcases h with ⟨a1, a2⟩ | ⟨a0, i, a1, a2, a3⟩ <;> rcases h' with ⟨b1, b2⟩ | ⟨b0, j, b1, b2, b3⟩
  · rw [a2, b2]
  · exact absurd a1 b0
  · exact absurd b1 a0
  · rcases Nat.lt_trichotomy i j with z | z | z
    · exact absurd a1 (b3 i z)
    · rw [a2, b2, z]
    · exact absurd b1 (a3 j z)
theorem kid.inj {L : List Nat} {t t' : Nat} {v : Int32} (hL : L.length < 2 ^ 31) (h : kid L t v) (h' : kid L t' v) : t = t' := by
  have hne : ∀ i, i < L.length → ¬ nI i = -1 := fun i hi e => by
    have h1 := nI_toInt (n := i) (by omega)
    rw [e] at h1
    have h2 : (-1 : Int32).toInt = -1 := rfl
    omega
  rcases h with ⟨a1, a2⟩ | ⟨a0, i, a1, a2, a3⟩ <;> rcases h' with ⟨b1, b2⟩ | ⟨b0, j, b1, b2, b3⟩
  · rw [a1, b1]
  · exact absurd (b2.symm.trans a2) (hne j (getq_lt b1))
  · exact absurd (a2.symm.trans b2) (hne i (getq_lt a1))
  · have hi := getq_lt a1
    have hj := getq_lt b1
    have e : i = j := nI_inj (by omega) (by omega) (a2.symm.trans b2)
    rw [e] at a1
    exact Option.some.inj (a1.symm.trans b1)
theorem kid_of {L : List Nat} {t : Nat} (h : t ∈ L) (h0 : ¬ t = 0) : ∃ v, kid L t v := by
  obtain ⟨i, e1, e2⟩ := first_at h
  exact ⟨nI i, Or.inr ⟨h0, i, e1, rfl, e2⟩⟩
theorem kid.back {L : List Nat} {u t : Nat} {v : Int32} (hu : u ∈ L) (h : kid (L ++ [u]) t v) : kid L t v := by
  rcases h with h | ⟨h0, i, e1, e2, e3⟩
  · exact Or.inl h
  · have hlt : i < L.length := by
      rcases Nat.lt_or_ge i L.length with z | z
      · exact z
      · have hi := getq_lt e1
        rw [List.length_append, List.length_singleton] at hi
        obtain rfl : i = L.length := by omega
        rw [List.getElem?_append_right (Nat.le_refl _), Nat.sub_self] at e1
        have e4 : u = t := Option.some.inj e1
        obtain ⟨j, f1, f2⟩ := first_at hu
        have hj := getq_lt f1
        exact absurd (by rw [getq_pre hj, f1, e4]) (e3 j hj)
    exact Or.inr ⟨h0, i, by rw [← getq_pre hlt]; exact e1, e2, fun j hj => by rw [← getq_pre (show j < L.length by omega)]; exact e3 j hj⟩
