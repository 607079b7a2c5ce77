/-- row d + 1 of the rows of 16, filled from the left -/
def stpN (f : Nat → Int32) (d : Nat) (g : Nat → Int32) (k : Nat) : Nat → Int32 := fun q => if 16 * d + 16 ≤ q ∧ q < 16 * d + 16 + k then g (q - (16 * d + 16)) else f q
theorem stpN_0 (f : Nat → Int32) (d : Nat) (g : Nat → Int32) : stpN f d g 0 = f := by funext q; unfold stpN; rw [if_neg (by omega)]
theorem stpN_lo (f : Nat → Int32) {d : Nat} (g : Nat → Int32) (k : Nat) {q : Nat} (h : q < 16 * d + 16) : stpN f d g k q = f q := by unfold stpN; rw [if_neg (by omega)]
theorem stpN_s (f : Nat → Int32) (d : Nat) (g : Nat → Int32) (k : Nat) {v : Int32} (hv : v = g k) : upd (stpN f d g k) (16 * d + 16 + k) v = stpN f d g (k + 1) := by
  funext q
  unfold upd stpN
  by_cases h : q = 16 * d + 16 + k
  · subst h
    rw [if_pos rfl, if_pos ⟨by omega, by omega⟩, hv]
    congr 1
    omega
  · rw [if_neg h]
    by_cases h2 : 16 * d + 16 ≤ q ∧ q < 16 * d + 16 + k
    · rw [if_pos h2, if_pos ⟨h2.1, by omega⟩]
    · rw [if_neg h2, if_neg (by omega)]
theorem b_0shl {k : Nat} (hk : k < 32) : (0 : Int32) <<< (nI k &&& 31) = 0 := b_ext fun i hi => by rw [b_shl k hk 0 hi, b_0, b_0, Bool.and_false]
theorem b_or0 (x : Int32) : x ||| 0 = x := b_ext fun i hi => by rw [b_or, b_0, Bool.or_false]
theorem mkN_or (f : Nat → Bool) {k : Nat} (hk : k < 32) : mkN f k ||| (b2i (f k) <<< (nI k &&& 31)) = mkN f (k + 1) := by
  cases h : f k with
  | true => rw [mkN_t h]; rfl
  | false => rw [mkN_f h, show b2i false = 0 from rfl, b_0shl hk, b_or0]
