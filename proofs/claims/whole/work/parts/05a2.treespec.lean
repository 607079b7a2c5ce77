/-! ===== closing a node: the first earlier one that equals it, or itself ===== -/
def clP (tc : Nat → Int32) (x0 x1 x2 : Int32) (i : Nat) : Bool := decide (tc (3 * i + 0) = x0) && (decide (tc (3 * i + 1) = x1) && decide (tc (3 * i + 2) = x2))
theorem clP_0 {tc : Nat → Int32} {x0 x1 x2 : Int32} {i : Nat} (h : ¬ tc (3 * i + 0) = x0) : clP tc x0 x1 x2 i = false := by unfold clP; rw [decide_eq_false h]; rfl
theorem clP_1 {tc : Nat → Int32} {x0 x1 x2 : Int32} {i : Nat} (h : ¬ tc (3 * i + 1) = x1) : clP tc x0 x1 x2 i = false := by unfold clP; rw [decide_eq_false h]; cases decide (tc (3 * i + 0) = x0) <;> rfl
theorem clP_2 {tc : Nat → Int32} {x0 x1 x2 : Int32} {i : Nat} (h : ¬ tc (3 * i + 2) = x2) : clP tc x0 x1 x2 i = false := by unfold clP; rw [decide_eq_false h]; cases decide (tc (3 * i + 0) = x0) <;> cases decide (tc (3 * i + 1) = x1) <;> rfl
theorem clP_t {tc : Nat → Int32} {x0 x1 x2 : Int32} {i : Nat} (h0 : tc (3 * i + 0) = x0) (h1 : tc (3 * i + 1) = x1) (h2 : tc (3 * i + 2) = x2) : clP tc x0 x1 x2 i = true := by unfold clP; rw [decide_eq_true h0, decide_eq_true h1, decide_eq_true h2]; rfl
def cloS (ct : Int32) (tc : Nat → Int32) (n : Nat) (x0 x1 x2 : Int32) : Int32 × Int32 × (Nat → Int32) :=
  match (List.range n).find? (clP tc x0 x1 x2) with
  | some i => (nI i, nI n, tc)
  | none => (nI n, ct, upd (upd (upd tc (3 * n) x0) (3 * n + 1) x1) (3 * n + 1 + 1) x2)
theorem cloS_some {ct : Int32} {tc : Nat → Int32} {n i : Nat} {x0 x1 x2 : Int32} (h : (List.range n).find? (clP tc x0 x1 x2) = some i) : cloS ct tc n x0 x1 x2 = (nI i, nI n, tc) := by unfold cloS; rw [h]
theorem cloS_none {ct : Int32} {tc : Nat → Int32} {n : Nat} {x0 x1 x2 : Int32} (h : (List.range n).find? (clP tc x0 x1 x2) = none) : cloS ct tc n x0 x1 x2 = (nI n, ct, upd (upd (upd tc (3 * n) x0) (3 * n + 1) x1) (3 * n + 1 + 1) x2) := by unfold cloS; rw [h]
