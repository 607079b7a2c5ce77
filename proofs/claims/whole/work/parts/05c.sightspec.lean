/-! ===== clearing, twins' pairs ===== -/
def clrN (f : Nat → Nat → Int32) (k : Nat) : Nat → Nat → Int32 := fun b j => if b < k ∧ j = 0 then 0 else f b j
theorem clrN_0 (f : Nat → Nat → Int32) : clrN f 0 = f := by funext b j; unfold clrN; rw [if_neg (by omega)]
theorem clrN_s (f : Nat → Nat → Int32) (k : Nat) : up2 (clrN f k) k 0 0 = clrN f (k + 1) := by
  funext b j
  unfold up2 clrN
  by_cases h : b = k
  · subst h
    by_cases hj : j = 0
    · simp [hj]
    · simp [hj]
  · by_cases h2 : b < k
    · simp [h, h2, Nat.lt_succ_of_lt h2]
    · simp [h, h2, show ¬ b < k + 1 by omega]
/-- the pair q = 16 * low + high is one of the belief, in order, and not told apart -/
def twP (be : Int32) (ap : Nat → Int32) (q : Nat) : Bool := decide (q / 16 < q % 16) && (bt be (q / 16) && (bt be (q % 16) && !bt (ap (q / 16)) (q % 16)))
theorem dm16 {i j : Nat} (hj : j < 16) : (16 * i + j) / 16 = i ∧ (16 * i + j) % 16 = j := by omega
theorem twP_lo {be : Int32} {ap : Nat → Int32} {i : Nat} (hq : ∀ q, q < 16 * i → twP be ap q = false) {q : Nat} (h : q < 16 * i + (i + 1)) : twP be ap q = false := by
  rcases Nat.lt_or_ge q (16 * i) with z | z
  · exact hq q z
  · unfold twP
    by_cases h16 : i < 16
    · rw [decide_eq_false (by omega)]; rfl
    · by_cases h2 : q / 16 < q % 16
      · exact absurd h2 (by omega)
      · rw [decide_eq_false h2]; rfl
theorem twP_0 {be : Int32} {ap : Nat → Int32} {i j : Nat} (hi : i < 16) (hj : j < 16) (h : bt be i = false) : twP be ap (16 * i + j) = false := by
  unfold twP; rw [(dm16 hj).1, (dm16 hj).2, h]; cases decide (i < j) <;> rfl
theorem twP_1 {be : Int32} {ap : Nat → Int32} {i j : Nat} (hi : i < 16) (hj : j < 16) (h : bt be j = false) : twP be ap (16 * i + j) = false := by
  unfold twP; rw [(dm16 hj).1, (dm16 hj).2, h]; cases decide (i < j) <;> cases bt be i <;> rfl
theorem twP_2 {be : Int32} {ap : Nat → Int32} {i j : Nat} (hi : i < 16) (hj : j < 16) (h : bt (ap i) j = true) : twP be ap (16 * i + j) = false := by
  unfold twP; rw [(dm16 hj).1, (dm16 hj).2, h]; cases decide (i < j) <;> cases bt be i <;> cases bt be j <;> rfl
theorem twP_t {be : Int32} {ap : Nat → Int32} {i j : Nat} (hi : i < 16) (hj : j < 16) (hij : i < j) (h0 : bt be i = true) (h1 : bt be j = true) (h2 : bt (ap i) j = false) : twP be ap (16 * i + j) = true := by
  unfold twP; rw [(dm16 hj).1, (dm16 hj).2, h0, h1, h2, decide_eq_true hij]; rfl
