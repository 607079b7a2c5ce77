/-! ===== the plan as a table of nodes with heights; the reference's check of it with a stack ===== -/
def tbl (c : Nat) (ta tp tq : Nat → Option Nat) (ht : Nat → Nat) : Prop := c ≤ 31 ∧ ∀ k, k < c → ht k ≤ 4 ∧ (∀ a, ta k = some a → a < 8 ∧ 1 ≤ ht k) ∧ (∀ j, tp k = some j → j < c ∧ ht j < ht k) ∧ (∀ j, tq k = some j → j < c ∧ ht j < ht k)
def tbA (ar : Nat → Nat → Int32) (c : Nat) (ta tp tq : Nat → Option Nat) : Prop := ∀ k, k < c → ar 16 k = o2i (ta k) ∧ ar 17 k = o2i (tp k) ∧ ar 18 k = o2i (tq k)
section FX
variable {us : Nat → Int32 → Bool} {pt : Nat → Int32 → Int32 → Int32} {re : Int32 → Bool} {c : Nat} {ta tp tq : Nat → Option Nat} {ht : Nat → Nat}
def fxO (us : Nat → Int32 → Bool) (pt : Nat → Int32 → Int32 → Int32) (re : Int32 → Bool) (ta tp tq : Nat → Option Nat) (ht : Nat → Nat) (k : Nat) (x : Int32) : Bool := fitO us pt re ta tp tq (ht k + 1) (some k) x
def fcO (us : Nat → Int32 → Bool) (pt : Nat → Int32 → Int32 → Int32) (re : Int32 → Bool) (ta tp tq : Nat → Option Nat) (ht : Nat → Nat) (o : Option Nat) (p : Int32) : Bool := if p = 0 then true else match o with
  | none => false
  | some j => fxO us pt re ta tp tq ht j p
/-- more depth than a node's height changes nothing -/
theorem fit_ht (hT : tbl c ta tp tq ht) : ∀ (N k : Nat), k < c → ht k < N → ∀ f, ht k < f → ∀ x, fitO us pt re ta tp tq f (some k) x = fxO us pt re ta tp tq ht k x := by
  intro N
  induction N with
  | zero => intro k _ h; omega
  | succ N ih =>
    intro k hk hN f hf x
    obtain ⟨_, h2, h3, h4⟩ := hT.2 k hk
    obtain ⟨f, rfl⟩ : ∃ g, f = g + 1 := ⟨f - 1, by omega⟩
    unfold fxO
    by_cases hx : x = 0
    · rw [fitO_b0 hx, fitO_b0 hx]
    · cases ha : ta k with
      | none => rw [fitO_leaf hx ha, fitO_leaf hx ha]
      | some a =>
        rw [fitO_node hx ha, fitO_node hx ha]
        have kid : ∀ (o : Option Nat) (p : Int32), (∀ j, o = some j → j < c ∧ ht j < ht k) → fitO us pt re ta tp tq f o p = fitO us pt re ta tp tq (ht k) o p := by
          intro o p ho
          cases o with
          | none =>
            by_cases hp : p = 0
            · rw [fitO_b0 hp, fitO_b0 hp]
            · rw [fitO_no hp, fitO_no hp]
          | some j =>
            obtain ⟨j1, j2⟩ := ho j rfl
            rw [ih j j1 (by omega) f (by omega) p, ih j j1 (by omega) (ht k) j2 p]
        rw [kid (tp k) _ h3, kid (tq k) _ h4]
theorem fx_leaf {k : Nat} {x : Int32} (hx : ¬ x = 0) (ha : ta k = none) : fxO us pt re ta tp tq ht k x = re x := fitO_leaf hx ha
theorem fx_node (hT : tbl c ta tp tq ht) {k a : Nat} (hk : k < c) {x : Int32} (hx : ¬ x = 0) (ha : ta k = some a) : fxO us pt re ta tp tq ht k x = (us a x && (fcO us pt re ta tp tq ht (tp k) (pt a x 0) && fcO us pt re ta tp tq ht (tq k) (pt a x 1))) := by
  obtain ⟨_, h2, h3, h4⟩ := hT.2 k hk
  have kid : ∀ (o : Option Nat) (p : Int32), (∀ j, o = some j → j < c ∧ ht j < ht k) → fitO us pt re ta tp tq (ht k) o p = fcO us pt re ta tp tq ht o p := by
    intro o p ho
    unfold fcO
    by_cases hp : p = 0
    · rw [if_pos hp, fitO_b0 hp]
    · rw [if_neg hp]
      cases o with
      | none => exact fitO_no hp
      | some j => exact fit_ht hT (ht j + 1) j (ho j rfl).1 (by omega) (ht k) (ho j rfl).2 p
  show fitO us pt re ta tp tq (ht k + 1) (some k) x = _
  rw [fitO_node hx ha, kid (tp k) _ h3, kid (tq k) _ h4]
theorem fc_0 {o : Option Nat} {p : Int32} (h : p = 0) : fcO us pt re ta tp tq ht o p = true := if_pos h
theorem fc_no {o : Option Nat} {p : Int32} (h : ¬ p = 0) (ho : o = none) : fcO us pt re ta tp tq ht o p = false := by unfold fcO; rw [if_neg h, ho]
theorem fc_at {o : Option Nat} {p : Int32} {j : Nat} (h : ¬ p = 0) (ho : o = some j) : fcO us pt re ta tp tq ht o p = fxO us pt re ta tp tq ht j p := by unfold fcO; rw [if_neg h, ho]
end FX
/-- the stack: nodes and beliefs, the top first -/
def stk2 (wk wb : Nat → Int32) : List (Nat × Int32) → Prop
  | [] => True
  | q :: S => (wk S.length = nI q.1 ∧ wb S.length = q.2) ∧ stk2 wk wb S
theorem stk2_upd {wk wb : Nat → Int32} {q : Nat} {u v : Int32} : ∀ {S : List (Nat × Int32)}, S.length ≤ q → stk2 wk wb S → stk2 (upd wk q u) (upd wb q v) S := by
  intro S
  induction S with
  | nil => intro _ _; trivial
  | cons k S ih => intro hq h; rw [List.length_cons] at hq; exact ⟨by rw [upd_ne (show ¬ S.length = q by omega), upd_ne (show ¬ S.length = q by omega)]; exact h.1, ih (by omega) h.2⟩
def hsz (ht : Nat → Nat) (k : Nat) : Nat := 2 ^ (ht k + 1) - 1
def hsm (ht : Nat → Nat) (S : List (Nat × Int32)) : Nat := (S.map (fun q => hsz ht q.1)).sum
theorem hsm_cons (ht : Nat → Nat) (q : Nat × Int32) (S : List (Nat × Int32)) : hsm ht (q :: S) = hsz ht q.1 + hsm ht S := rfl
theorem hsz_pos (ht : Nat → Nat) (k : Nat) : 1 ≤ hsz ht k := by
  have : 2 ^ (ht k + 1) = 2 ^ ht k * 2 := Nat.pow_succ ..
  have := Nat.one_le_two_pow (n := ht k)
  unfold hsz
  omega
theorem hsz_kid {ht : Nat → Nat} {k j : Nat} (h : ht j < ht k) : 2 * hsz ht j + 1 ≤ hsz ht k := by
  have h1 : 2 ^ (ht j + 1 + 1) ≤ 2 ^ (ht k + 1) := Nat.pow_le_pow_right (by decide) (by omega)
  have h2 : 2 ^ (ht j + 1 + 1) = 2 ^ (ht j + 1) * 2 := Nat.pow_succ ..
  have h3 := Nat.one_le_two_pow (n := ht j + 1)
  unfold hsz
  omega
theorem hsm_len (ht : Nat → Nat) : ∀ (S : List (Nat × Int32)), S.length ≤ hsm ht S := by
  intro S
  induction S with
  | nil => exact Nat.zero_le _
  | cons q S ih =>
    have := hsz_pos ht q.1
    rw [hsm_cons, List.length_cons]
    omega
/-- what the loop keeps: Rf the answer -/
def rIv (us : Nat → Int32 → Bool) (pt : Nat → Int32 → Int32 → Int32) (re : Int32 → Bool) (c : Nat) (ta tp tq : Nat → Option Nat) (ht : Nat → Nat) (Rf : Bool) (f : Nat) (g : Bool) (S : List (Nat × Int32)) (wk wb : Nat → Int32) : Prop :=
  stk2 wk wb S ∧ (∀ q ∈ S, q.1 < c ∧ is16 q.2 ∧ ¬ q.2 = 0) ∧ hsm ht S ≤ f ∧ f ≤ 31 ∧ (g && S.all (fun q => fxO us pt re ta tp tq ht q.1 q.2)) = Rf
section RIV
variable {us : Nat → Int32 → Bool} {pt : Nat → Int32 → Int32 → Int32} {re : Int32 → Bool} {c : Nat} {ta tp tq : Nat → Option Nat} {ht : Nat → Nat} {Rf : Bool} {f k : Nat} {x : Int32} {S : List (Nat × Int32)} {wk wb : Nat → Int32}
theorem rIv.f_pos {g : Bool} (h : rIv us pt re c ta tp tq ht Rf f g ((k, x) :: S) wk wb) : ∃ g, f = g + 1 := by
  have h1 := hsz_pos ht k
  have h2 := h.2.2.1
  rw [hsm_cons] at h2
  have h2 : hsz ht k + hsm ht S ≤ f := h2
  exact ⟨f - 1, by omega⟩
theorem rIv.len {g : Bool} (h : rIv us pt re c ta tp tq ht Rf f g S wk wb) : S.length ≤ 31 := by
  have := hsm_len ht S
  have := h.2.2.1
  have := h.2.2.2.1
  omega
/-- one node less, one part more or none -/
theorem rIv.pop (h : rIv us pt re c ta tp tq ht Rf (f + 1) true ((k, x) :: S) wk wb) (g : Bool) (e : fxO us pt re ta tp tq ht k x = g) : rIv us pt re c ta tp tq ht Rf f g S wk wb := by
  obtain ⟨h1, h2, h3, h4, h5⟩ := h
  have hm := hsz_pos ht k
  rw [hsm_cons] at h3
  have h3 : hsz ht k + hsm ht S ≤ f + 1 := h3
  refine ⟨h1.2, fun q hq => h2 q (List.mem_cons_of_mem _ hq), by omega, by omega, ?_⟩
  rw [← h5, List.all_cons, Bool.true_and, e]
theorem rIv.bad (h : rIv us pt re c ta tp tq ht Rf (f + 1) true ((k, x) :: S) wk wb) (e : fxO us pt re ta tp tq ht k x = false) {j : Nat} {y : Int32} (hj : j < c ∧ ht j < ht k) (hy : is16 y) (hy0 : ¬ y = 0) : rIv us pt re c ta tp tq ht Rf f false ((j, y) :: S) (upd wk S.length (nI j)) (upd wb S.length y) := by
  obtain ⟨h1, h2, h3, h4, h5⟩ := h
  have hm := hsz_kid hj.2
  rw [hsm_cons] at h3
  have h3 : hsz ht k + hsm ht S ≤ f + 1 := h3
  refine ⟨⟨⟨upd_eq, upd_eq⟩, stk2_upd (Nat.le_refl _) h1.2⟩, fun q hq => ?_, ?_, by omega, ?_⟩
  · rcases List.mem_cons.mp hq with rfl | hq
    · exact ⟨hj.1, hy, hy0⟩
    · exact h2 q (List.mem_cons_of_mem _ hq)
  · rw [hsm_cons]; show hsz ht j + hsm ht S ≤ f; omega
  · rw [← h5]; show (false && _) = (true && (fxO us pt re ta tp tq ht k x && _)); rw [e]; rfl
theorem rIv.one (h : rIv us pt re c ta tp tq ht Rf (f + 1) true ((k, x) :: S) wk wb) {j : Nat} {y : Int32} (e : fxO us pt re ta tp tq ht k x = fxO us pt re ta tp tq ht j y) (hj : j < c ∧ ht j < ht k) (hy : is16 y) (hy0 : ¬ y = 0) : rIv us pt re c ta tp tq ht Rf f true ((j, y) :: S) (upd wk S.length (nI j)) (upd wb S.length y) := by
  obtain ⟨h1, h2, h3, h4, h5⟩ := h
  have hm := hsz_kid hj.2
  rw [hsm_cons] at h3
  have h3 : hsz ht k + hsm ht S ≤ f + 1 := h3
  refine ⟨⟨⟨upd_eq, upd_eq⟩, stk2_upd (Nat.le_refl _) h1.2⟩, fun q hq => ?_, ?_, by omega, ?_⟩
  · rcases List.mem_cons.mp hq with rfl | hq
    · exact ⟨hj.1, hy, hy0⟩
    · exact h2 q (List.mem_cons_of_mem _ hq)
  · rw [hsm_cons]; show hsz ht j + hsm ht S ≤ f; omega
  · rw [← h5, List.all_cons, List.all_cons, e]
theorem rIv.two (h : rIv us pt re c ta tp tq ht Rf (f + 1) true ((k, x) :: S) wk wb) {j i : Nat} {y z : Int32} (e : fxO us pt re ta tp tq ht k x = (fxO us pt re ta tp tq ht j y && fxO us pt re ta tp tq ht i z)) (hj : j < c ∧ ht j < ht k) (hi : i < c ∧ ht i < ht k) (hy : is16 y) (hy0 : ¬ y = 0) (hz : is16 z) (hz0 : ¬ z = 0) :
    rIv us pt re c ta tp tq ht Rf f true ((i, z) :: (j, y) :: S) (upd (upd wk S.length (nI j)) (S.length + 1) (nI i)) (upd (upd wb S.length y) (S.length + 1) z) := by
  obtain ⟨h1, h2, h3, h4, h5⟩ := h
  have hm := hsz_kid hj.2
  have hm2 := hsz_kid hi.2
  rw [hsm_cons] at h3
  have h3 : hsz ht k + hsm ht S ≤ f + 1 := h3
  refine ⟨⟨⟨upd_eq, upd_eq⟩, ⟨⟨(upd_ne (show ¬ S.length = S.length + 1 by omega)).trans upd_eq, (upd_ne (show ¬ S.length = S.length + 1 by omega)).trans upd_eq⟩, stk2_upd (by omega) (stk2_upd (Nat.le_refl _) h1.2)⟩⟩, fun q hq => ?_, ?_, by omega, ?_⟩
  · rcases List.mem_cons.mp hq with rfl | hq
    · exact ⟨hi.1, hz, hz0⟩
    rcases List.mem_cons.mp hq with rfl | hq
    · exact ⟨hj.1, hy, hy0⟩
    · exact h2 q (List.mem_cons_of_mem _ hq)
  · rw [hsm_cons, hsm_cons]; show hsz ht i + (hsz ht j + hsm ht S) ≤ f; omega
  · rw [← h5, List.all_cons, List.all_cons, List.all_cons, e]
    show (true && (fxO us pt re ta tp tq ht i z && (fxO us pt re ta tp tq ht j y && _))) = (true && ((fxO us pt re ta tp tq ht j y && fxO us pt re ta tp tq ht i z) && _))
    cases fxO us pt re ta tp tq ht i z <;> cases fxO us pt re ta tp tq ht j y <;> rfl
end RIV
