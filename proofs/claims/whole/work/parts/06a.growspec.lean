/-! ===== growing the plan's table ===== -/
def cloN (n c : Nat) (tc : Nat → Int32) (x0 x1 x2 : Int32) : Int32 × Nat × (Nat → Int32) :=
  match (List.range n).find? (clP tc x0 x1 x2) with
  | some i => (nI i, n, tc)
  | none => (nI n, c, upd (upd (upd tc (3 * n) x0) (3 * n + 1) x1) (3 * n + 1 + 1) x2)
theorem cloS_N (n c : Nat) (tc : Nat → Int32) (x0 x1 x2 : Int32) : cloS (nI c) tc n x0 x1 x2 = ((cloN n c tc x0 x1 x2).1, nI (cloN n c tc x0 x1 x2).2.1, (cloN n c tc x0 x1 x2).2.2) := by
  unfold cloS cloN
  cases (List.range n).find? (clP tc x0 x1 x2) <;> rfl
theorem cloN_le (n c : Nat) (tc : Nat → Int32) (x0 x1 x2 : Int32) (h : n ≤ c) : (cloN n c tc x0 x1 x2).2.1 ≤ c := by
  unfold cloN
  cases (List.range n).find? (clP tc x0 x1 x2)
  · exact Nat.le_refl c
  · exact h
def grw (le : Nat → Int32 → Option Nat) (re : Int32 → Bool) (pt : Nat → Int32 → Int32 → Int32) : Nat → Int32 → Nat → (Nat → Int32) → Int32 × Nat × (Nat → Int32)
  | 0, _, c, tc => cloN c (c + 1) (upd tc (3 * c) (-2)) (-1) (-1) (-1)
  | n + 1, b, c, tc =>
    match (if re b = true then none else le (n + 1) b) with
    | none => cloN c (c + 1) (upd tc (3 * c) (-2)) (-1) (-1) (-1)
    | some a =>
      let q0 := if pt a b 0 = 0 then (-1, c + 1, upd tc (3 * c) (-2)) else grw le re pt n (pt a b 0) (c + 1) (upd tc (3 * c) (-2))
      let q1 := if pt a b 1 = 0 then (-1, q0.2.1, q0.2.2) else grw le re pt n (pt a b 1) q0.2.1 q0.2.2
      cloN c q1.2.1 q1.2.2 (nI a) q0.1 q1.1
def grwP (le : Nat → Int32 → Option Nat) (re : Int32 → Bool) (pt : Nat → Int32 → Int32 → Int32) (n : Nat) (b : Int32) (c : Nat) (tc : Nat → Int32) : Int32 × Nat × (Nat → Int32) :=
  if b = 0 then (-1, c, tc) else grw le re pt n b c tc
section GRW
variable {le : Nat → Int32 → Option Nat} {re : Int32 → Bool} {pt : Nat → Int32 → Int32 → Int32}
theorem grw_leaf {n : Nat} {b : Int32} {c : Nat} {tc : Nat → Int32} (h : (if re b = true then none else le n b) = none) : grw le re pt n b c tc = cloN c (c + 1) (upd tc (3 * c) (-2)) (-1) (-1) (-1) := by
  cases n with
  | zero => rfl
  | succ n => unfold grw; rw [h]
theorem grw_node {n : Nat} {b : Int32} {c : Nat} {tc : Nat → Int32} {a : Nat} {r0 r1 : Int32} {c0 c1 : Nat} {t0 t1 : Nat → Int32} (h0 : re b = false) (h : le (n + 1) b = some a)
    (hq0 : grwP le re pt n (pt a b 0) (c + 1) (upd tc (3 * c) (-2)) = (r0, c0, t0)) (hq1 : grwP le re pt n (pt a b 1) c0 t0 = (r1, c1, t1)) : grw le re pt (n + 1) b c tc = cloN c c1 t1 (nI a) r0 r1 := by
  unfold grw
  rw [if_neg (by rw [h0]; decide), h]
  unfold grwP at hq0 hq1
  simp only [hq0, hq1]
theorem grw_cnt : ∀ (n : Nat) (b : Int32) (c : Nat) (tc : Nat → Int32), (grw le re pt n b c tc).2.1 + 1 ≤ c + 2 ^ (n + 1) := by
  intro n
  induction n with
  | zero => intro b c tc; have := cloN_le c (c + 1) (upd tc (3 * c) (-2)) (-1) (-1) (-1) (by omega); show (cloN _ _ _ _ _ _).2.1 + 1 ≤ _; omega
  | succ n ih =>
    intro b c tc
    have h2 : 2 ^ (n + 1 + 1) = 2 ^ (n + 1) + 2 ^ (n + 1) := by rw [Nat.pow_succ]; omega
    have h1 : 1 ≤ 2 ^ (n + 1) := Nat.one_le_two_pow
    have hP : ∀ (b : Int32) (c : Nat) (tc : Nat → Int32), (grwP le re pt n b c tc).2.1 + 1 ≤ c + 2 ^ (n + 1) := by
      intro b c tc
      unfold grwP
      split
      · show c + 1 ≤ _; omega
      · exact ih b c tc
    cases hm : (if re b = true then none else le (n + 1) b) with
    | none => rw [grw_leaf hm]; have := cloN_le c (c + 1) (upd tc (3 * c) (-2)) (-1) (-1) (-1) (by omega); omega
    | some a =>
      have h0 : re b = false := by
        cases hr : re b
        · rfl
        · rw [hr, if_pos rfl] at hm; cases hm
      rw [h0, if_neg (by decide)] at hm
      obtain ⟨⟨r0, c0, t0⟩, hq0⟩ : ∃ q, grwP le re pt n (pt a b 0) (c + 1) (upd tc (3 * c) (-2)) = q := ⟨_, rfl⟩
      obtain ⟨⟨r1, c1, t1⟩, hq1⟩ : ∃ q, grwP le re pt n (pt a b 1) c0 t0 = q := ⟨_, rfl⟩
      rw [grw_node h0 hm hq0 hq1]
      have e0 := hP (pt a b 0) (c + 1) (upd tc (3 * c) (-2))
      have e1 := hP (pt a b 1) c0 t0
      rw [hq0] at e0
      rw [hq1] at e1
      have e0 : c0 + 1 ≤ c + 1 + 2 ^ (n + 1) := e0
      have e1 : c1 + 1 ≤ c0 + 2 ^ (n + 1) := e1
      unfold cloN
      cases (List.range c).find? (clP t1 (nI a) r0 r1)
      · show c1 + 1 ≤ _; omega
      · show c + 1 ≤ _; omega
theorem grwP_cnt (n : Nat) (b : Int32) (c : Nat) (tc : Nat → Int32) : (grwP le re pt n b c tc).2.1 + 1 ≤ c + 2 ^ (n + 1) := by
  have h1 : 1 ≤ 2 ^ (n + 1) := Nat.one_le_two_pow
  unfold grwP
  split
  · show c + 1 ≤ _; omega
  · exact grw_cnt n b c tc
end GRW
abbrev grS (σ : HS) : Nat → Int32 → Nat → (Nat → Int32) → Int32 × Nat × (Nat → Int32) := grw (leS σ) (reS σ) (ptS σ)
abbrev grPS (σ : HS) : Nat → Int32 → Nat → (Nat → Int32) → Int32 × Nat × (Nat → Int32) := grwP (leS σ) (reS σ) (ptS σ)
def MGrow (l : Launch) (dC : Nat → ClassId) (dI : Nat → Nat → Nat) (A : Nat → Nat) (cI cQ : ClassId) (n : Nat) : Prop := ∀ (σ : HS) (sz c : Nat) (b : Int32), ctS σ = nI c → c + 2 ^ (n + 1) ≤ 32 →
  Met l yX3_grow wsX3_grow { frames := 3 * n + 5, cells := 0, slots := 0, locals := 69 * n + 200 } (va_Pc [.ref (A 0), .int b, .int (nI n)] (hfF dC dI A cI cQ sz σ))
    (va_Qi (fun (r : Int32) (τ : HS) => r = (grS σ n b c (tcS σ)).1 ∧ τ = (σ.1, (nI (grS σ n b c (tcS σ)).2.1, (grS σ n b c (tcS σ)).2.2), σ.2.2)) (hfB dC dI A cI cQ (va_A (hfW A cI cQ σ) sz)) (va_A (hfW A cI cQ σ) sz)) 0 0 (va_A (hfW A cI cQ σ) sz)
def MPart (l : Launch) (dC : Nat → ClassId) (dI : Nat → Nat → Nat) (A : Nat → Nat) (cI cQ : ClassId) (n : Nat) : Prop := ∀ (σ : HS) (sz c : Nat) (b : Int32), ctS σ = nI c → c + 2 ^ (n + 1) ≤ 32 →
  Met l yX3_growPart wsX3_growPart { frames := 3 * n + 6, cells := 0, slots := 0, locals := 69 * n + 227 } (va_Pc [.ref (A 0), .int b, .int (nI n)] (hfF dC dI A cI cQ sz σ))
    (va_Qi (fun (r : Int32) (τ : HS) => r = (grPS σ n b c (tcS σ)).1 ∧ τ = (σ.1, (nI (grPS σ n b c (tcS σ)).2.1, (grPS σ n b c (tcS σ)).2.2), σ.2.2)) (hfB dC dI A cI cQ (va_A (hfW A cI cQ σ) sz)) (va_A (hfW A cI cQ σ) sz)) 0 0 (va_A (hfW A cI cQ σ) sz)
