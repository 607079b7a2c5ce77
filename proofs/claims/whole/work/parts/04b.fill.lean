/-! ===== arrays filled from the left; what a callee leaves ===== -/
def fillN (f g : Nat → Int32) (k : Nat) : Nat → Int32 := fun j => if j < k then g j else f j
theorem fillN_0 (f g : Nat → Int32) : fillN f g 0 = f := by funext j; simp [fillN]
theorem fillN_s (f g : Nat → Int32) (k : Nat) {x : Int32} (hx : x = g k) : upd (fillN f g k) k x = fillN f g (k + 1) := by
  funext j
  unfold upd fillN
  by_cases h : j = k
  · subst h; simp [hx]
  · by_cases h2 : j < k
    · simp [h, h2, Nat.lt_succ_of_lt h2]
    · simp [h, h2, show ¬ j < k + 1 by omega]
theorem va_up_id {α : Type} (f : Nat → α) (a : Nat) : va_up f a (f a) = f := by
  funext j
  unfold va_up
  by_cases h : j = a
  · subst h; simp
  · simp [h]
theorem hf_free {A : Nat → Nat} {cI cQ : ClassId} {σ : HS} {V : Nat → Prop} {H0 H : Heap} {locs : List Loc} (hD : va_D V (hfW A cI cQ σ)) (hS : va_S V H0 H locs) (hA : ∀ q, H0.size ≤ q → V q) : ∀ q, va_A (hfW A cI cQ σ) H.size q → V q := by
  rintro q (⟨k, e, h⟩ | h)
  · exact hD.2 k _ h
  · exact hA q (Nat.le_trans hS.1 h)
theorem hf_weak {ws : va_W} {V V' : Nat → Prop} (hD : va_D V' ws) (h : ∀ q, V' q → V q) : va_D V ws := ⟨hD.1, fun k q hk => h _ (hD.2 k q hk)⟩
theorem hf_any {ws : va_W} {V : Nat → Prop} (hD : va_D V ws) : va_D (fun _ => True) ws := ⟨hD.1, fun _ _ _ => trivial⟩
theorem fillN_at (f g : Nat → Int32) {k j : Nat} (h : k ≤ j) : fillN f g k j = f j := by unfold fillN; rw [if_neg (by omega)]
theorem fillN_lt (f g : Nat → Int32) {k j : Nat} (h : j < k) : fillN f g k j = g j := by unfold fillN; rw [if_pos h]
theorem fillN_same (f g : Nat → Int32) (k : Nat) : upd (fillN f g k) k (f k) = fillN f g k := by
  funext j
  unfold upd fillN
  by_cases h : j = k
  · subst h; simp
  · simp [h]
/-- what an effect makes of what came of each state -/
def addG (f : Nat → Int32) (x : Int32) (mk1 : Bool) (dem : Int32) : Nat → Int32 := fun j => if bt dem j = true then (if mk1 = true then f j ||| x else f j &&& (x ^^^ (-1))) else f j
