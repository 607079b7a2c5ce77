/-! ===== what two ways to be usable, to have parts, to be reached have in common where they agree on beliefs ===== -/
theorem find_cg {P Q : Nat → Bool} {n : Nat} (h : ∀ j, j < n → P j = Q j) : (List.range n).find? P = (List.range n).find? Q := by
  cases hq : (List.range n).find? Q with
  | none => exact find_no fun j hj => by rw [h j hj]; have := List.find?_range_eq_none.mp hq j hj; revert this; cases Q j <;> simp
  | some k =>
    have q := List.find?_range_eq_some.mp hq
    have hk := List.mem_range.mp q.2.1
    exact find_at hk (by rw [h k hk]; exact q.1) fun j hj => by rw [h j (by omega)]; have := q.2.2 j hj; revert this; cases Q j <;> simp
def agU (us us' : Nat → Int32 → Bool) (pt pt' : Nat → Int32 → Int32 → Int32) (re re' : Int32 → Bool) : Prop :=
  (∀ a, a < 8 → ∀ b, is16 b → us a b = us' a b) ∧ (∀ a, a < 8 → ∀ b, is16 b → us a b = true → ∀ w, (w = 0 ∨ w = 1) → pt a b w = pt' a b w ∧ is16 (pt a b w)) ∧ ∀ b, is16 b → re b = re' b
section AGU
variable {us us' : Nat → Int32 → Bool} {pt pt' : Nat → Int32 → Int32 → Int32} {re re' : Int32 → Bool}
theorem slv_cg (h : agU us us' pt pt' re re') : ∀ (n : Nat) (b : Int32), is16 b → slv us pt re n b = slv us' pt' re' n b := by
  intro n
  induction n with
  | zero => intro b hb; exact h.2.2 b hb
  | succ n ih =>
    intro b hb
    unfold slv
    rw [h.2.2 b hb]
    congr 2
    refine find_cg fun a ha => ?_
    rw [← h.1 a ha b hb]
    cases hu : us a b with
    | false => rfl
    | true =>
      obtain ⟨e0, i0⟩ := h.2.1 a ha b hb hu 0 (Or.inl rfl)
      obtain ⟨e1, i1⟩ := h.2.1 a ha b hb hu 1 (Or.inr rfl)
      rw [ih _ i0, ih _ i1, e0, e1]
theorem lea_cg (h : agU us us' pt pt' re re') (n : Nat) (b : Int32) (hb : is16 b) : lea us pt re n b = lea us' pt' re' n b := by
  cases n with
  | zero => rfl
  | succ n =>
    show (List.range 8).find? (fun a => us a b && (slv us pt re n (pt a b 0) && slv us pt re n (pt a b 1))) = (List.range 8).find? (fun a => us' a b && (slv us' pt' re' n (pt' a b 0) && slv us' pt' re' n (pt' a b 1)))
    refine find_cg fun a ha => ?_
    rw [← h.1 a ha b hb]
    cases hu : us a b with
    | false => rfl
    | true =>
      obtain ⟨e0, i0⟩ := h.2.1 a ha b hb hu 0 (Or.inl rfl)
      obtain ⟨e1, i1⟩ := h.2.1 a ha b hb hu 1 (Or.inr rfl)
      rw [slv_cg h n _ i0, slv_cg h n _ i1, e0, e1]
theorem few_cg (h : agU us us' pt pt' re re') (b : Int32) (hb : is16 b) (q : Nat) : few us pt re b q = few us' pt' re' b q := find_cg fun n _ => slv_cg h n b hb
theorem dcO_cg (h : agU us us' pt pt' re re') (n : Nat) (b : Int32) (hb : is16 b) : dcO us pt re n b = dcO us' pt' re' n b := by
  unfold dcO
  rw [h.2.2 b hb, lea_cg h n b hb]
theorem dcO_us {n : Nat} {b : Int32} {a : Nat} (h : dcO us pt re n b = some a) : us a b = true := by
  have h2 := (dcO_lt h).2.2.2
  cases n with
  | zero => cases h2
  | succ n =>
    have h3 := (lea_first h2).2.1
    rw [Bool.and_eq_true] at h3
    exact h3.1
theorem fit_cg (h : agU us us' pt pt' re re') {c : Nat} {ta tp tq : Nat → Option Nat} {ht : Nat → Nat} (hT : tbl c ta tp tq ht) : ∀ (f : Nat) (o : Option Nat), (∀ k, o = some k → k < c) → ∀ b, is16 b → fitO us pt re ta tp tq f o b = fitO us' pt' re' ta tp tq f o b := by
  intro f
  induction f with
  | zero => intro o _ b _; rfl
  | succ f ih =>
    intro o ho b hb
    by_cases hb0 : b = 0
    · rw [fitO_b0 hb0, fitO_b0 hb0]
    cases o with
    | none => rw [fitO_no hb0, fitO_no hb0]
    | some k =>
      have hk := ho k rfl
      obtain ⟨_, h2, h3, h4⟩ := hT.2 k hk
      cases hta : ta k with
      | none => rw [fitO_leaf hb0 hta, fitO_leaf hb0 hta, h.2.2 b hb]
      | some a =>
        have ha := (h2 a hta).1
        rw [fitO_node hb0 hta, fitO_node hb0 hta, ← h.1 a ha b hb]
        cases hu : us a b with
        | false => rfl
        | true =>
          obtain ⟨e0, i0⟩ := h.2.1 a ha b hb hu 0 (Or.inl rfl)
          obtain ⟨e1, i1⟩ := h.2.1 a ha b hb hu 1 (Or.inr rfl)
          rw [ih (tp k) (fun j hj => (h3 j hj).1) _ i0, ih (tq k) (fun j hj => (h4 j hj).1) _ i1, e0, e1]
end AGU
/-- carrying out: answers alike, the same number of actions, the same states behind them -/
theorem cr_cg {us us' : Nat → Int32 → Bool} {y y' : Nat → Nat → Nat} {sn sn' : Nat → Int32} {gl gl' : Int32} {c : Nat} {ta tp tq : Nat → Option Nat} {ht : Nat → Nat} (hT : tbl c ta tp tq ht)
    (hu : ∀ a, a < 8 → ∀ s, s < 16 → us a ((1 : Int32) <<< (nI s &&& 31)) = us' a ((1 : Int32) <<< (nI s &&& 31))) (hy : ∀ a, a < 8 → ∀ s, s < 16 → us a ((1 : Int32) <<< (nI s &&& 31)) = true → y a s = y' a s ∧ y a s < 16 ∧ sn a = sn' a) (hg : ∀ s, s < 16 → bt gl s = bt gl' s) :
    ∀ (f : Nat) (o : Option Nat) (s m : Nat) (tr tr' : Nat → Int32), (∀ k, o = some k → k < c) → s < 16 → (∀ k, k < m → tr k = tr' k) →
      (crO us y sn gl ta tp tq f o s m tr).1 = (crO us' y' sn' gl' ta tp tq f o s m tr').1 ∧ (crO us y sn gl ta tp tq f o s m tr).2.1 = (crO us' y' sn' gl' ta tp tq f o s m tr').2.1 ∧ (crO us y sn gl ta tp tq f o s m tr).2.1 ≤ m + f ∧ ∀ k, k < (crO us y sn gl ta tp tq f o s m tr).2.1 → (crO us y sn gl ta tp tq f o s m tr).2.2 k = (crO us' y' sn' gl' ta tp tq f o s m tr').2.2 k := by
  intro f
  induction f with
  | zero =>
    intro o s m tr tr' ho hs hm
    rw [crO_z, crO_z]
    refine ⟨?_, rfl, Nat.le_refl m, hm⟩
    show crF gl ta o s = crF gl' ta o s
    cases o with
    | none => rfl
    | some k =>
      cases hta : ta k with
      | none => rw [crF_leaf hta, crF_leaf hta, hg s hs]
      | some a => rw [crF_node hta, crF_node hta]
  | succ f ih =>
    intro o s m tr tr' ho hs hm
    cases o with
    | none => rw [crO_no, crO_no]; exact ⟨rfl, rfl, by show m ≤ _; omega, hm⟩
    | some k =>
      have hk := ho k rfl
      obtain ⟨_, h2, h3, h4⟩ := hT.2 k hk
      cases hta : ta k with
      | none => rw [crO_leaf hta, crO_leaf hta]; exact ⟨hg s hs, rfl, by show m ≤ _; omega, hm⟩
      | some a =>
        have ha := (h2 a hta).1
        cases hua : us a ((1 : Int32) <<< (nI s &&& 31)) with
        | false => rw [crO_stop hta hua, crO_stop hta (by rw [← hu a ha s hs]; exact hua)]; exact ⟨rfl, rfl, by show m ≤ _; omega, hm⟩
        | true =>
          obtain ⟨e1, e2, e3⟩ := hy a ha s hs hua
          rw [crO_go hta hua, crO_go hta (by rw [← hu a ha s hs]; exact hua), ← e1, ← e3]
          have key := ih (if bt (sn a) (y a s) = true then tq k else tp k) (y a s) (m + 1) (upd tr m (nI (y a s))) (upd tr' m (nI (y a s))) (fun j hj => by split at hj; exact (h4 j hj).1; exact (h3 j hj).1) e2 (fun q hq => by
            by_cases z : q = m
            · rw [z, upd_eq, upd_eq]
            · rw [upd_ne z, upd_ne z]; exact hm q (by omega))
          exact ⟨key.1, key.2.1, by have := key.2.2.1; omega, key.2.2.2⟩
