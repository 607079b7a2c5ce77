/-! ===== rows of actions, checking and carrying out ===== -/
/-- what is told apart behind an action: S the states that are sensed as true, x what has come of each -/
def mrk (S : Int32) (x : Nat → Nat) (ap : Nat → Int32) : Nat → Int32 := fillN ap (fun j => ap j ||| (if bt (mk (fun j => bt S (x j))) j = true then (mk (fun j => bt S (x j))) ^^^ (-1) else mk (fun j => bt S (x j)))) 16
def lkA (us : Nat → Int32 → Bool) (af : Nat → Int32 → Int32) (sn : Nat → Int32) (y : Nat → Nat → Nat) : Nat → Int32 → (Nat → Nat) → (Nat → Int32) → Nat → Int32
  | 0, _, _, ap => ap
  | f + 1, b, x, ap => (List.range 8).foldl (fun ap a => if us a b = true then lkA us af sn y f (af a b) (fun j => y a (x j)) (mrk (sn a) (fun j => y a (x j)) ap) else ap) ap
theorem fold_s {α : Type} (F : α → Nat → α) (z : α) (a : Nat) : (List.range (a + 1)).foldl F z = F ((List.range a).foldl F z) a := by rw [List.range_succ, List.foldl_append]; rfl
def snS (σ : HS) : Nat → Int32 := fun a => acS σ a 2
abbrev lkS (σ : HS) (y : Nat → Nat → Nat) : Nat → Int32 → (Nat → Nat) → (Nat → Int32) → Nat → Int32 := lkA (usS σ) (afS σ) (snS σ) y
def MLook (l : Launch) (dC : Nat → ClassId) (dI : Nat → Nat → Nat) (A : Nat → Nat) (cI cQ : ClassId) (y : Nat → Nat → Nat) (f : Nat) : Prop := ∀ (σ : HS) (sz d : Nat) (b : Int32) (x : Nat → Nat), d + f = 3 →
  (∀ j, j < 16 → coS σ (16 * d + j) = nI (x j) ∧ x j < 16) → (∀ a, a < 8 → ∀ j, j < 16 → nxS σ a j = nI (y a j) ∧ y a j < 16) →
  Met l yX3_look wsX3_look { frames := f + 3, cells := 0, slots := 0, locals := 23 * f + 69 } (va_Pc [.ref (A 0), .int b, .int (nI d)] (hfF dC dI A cI cQ sz σ))
    (va_Qv (fun τ : HS => ∃ co', τ = (σ.1, σ.2.1, (beS σ, co', lkS σ y f b x (apS σ)), σ.2.2.2) ∧ ∀ q, q < 16 * d + 16 → co' q = coS σ q) (hfB dC dI A cI cQ (va_A (hfW A cI cQ σ) sz)) (va_A (hfW A cI cQ σ) sz)) 0 0 (va_A (hfW A cI cQ σ) sz)
theorem stpN_hi (f : Nat → Int32) (d : Nat) (g : Nat → Int32) {j : Nat} (hj : j < 16) : stpN f d g 16 (16 * (d + 1) + j) = g j := by
  unfold stpN
  rw [if_pos ⟨by omega, by omega⟩]
  congr 1
  omega
/-- a table of nodes: action, node for part 0, node for part 1 -/
def tOK (tc : Nat → Int32) (c : Nat) (ta tp tq : Nat → Option Nat) : Prop := c ≤ 31 ∧ ∀ k, k < c → tc (3 * k + 0) = o2i (ta k) ∧ tc (3 * k + 1) = o2i (tp k) ∧ tc (3 * k + 2) = o2i (tq k) ∧ (∀ a, ta k = some a → a < 8) ∧ (∀ j, tp k = some j → j < c) ∧ (∀ j, tq k = some j → j < c)
def fitO (us : Nat → Int32 → Bool) (pt : Nat → Int32 → Int32 → Int32) (re : Int32 → Bool) (ta tp tq : Nat → Option Nat) : Nat → Option Nat → Int32 → Bool
  | 0, _, b => decide (b = 0)
  | f + 1, o, b => decide (b = 0) || (match o with
    | none => false
    | some k => match ta k with
      | none => re b
      | some a => us a b && (fitO us pt re ta tp tq f (tp k) (pt a b 0) && fitO us pt re ta tp tq f (tq k) (pt a b 1)))
def dpt : Nat → Int32
  | 0 => -1
  | f + 1 => nI f
theorem dpt_s (f : Nat) : nI f - 1 = dpt f := by
  cases f with
  | zero => decide
  | succ f => exact nI_pred f
section FITO
variable {us : Nat → Int32 → Bool} {pt : Nat → Int32 → Int32 → Int32} {re : Int32 → Bool} {ta tp tq : Nat → Option Nat}
theorem fitO_b0 {f : Nat} {o : Option Nat} {b : Int32} (h : b = 0) : fitO us pt re ta tp tq f o b = true := by cases f <;> simp [fitO, h]
theorem fitO_no {f : Nat} {b : Int32} (h : ¬ b = 0) : fitO us pt re ta tp tq f none b = false := by cases f <;> simp [fitO, h]
theorem fitO_z {o : Option Nat} {b : Int32} (h : ¬ b = 0) : fitO us pt re ta tp tq 0 o b = false := by simp [fitO, h]
theorem fitO_leaf {f : Nat} {k : Nat} {b : Int32} (h : ¬ b = 0) (h1 : ta k = none) : fitO us pt re ta tp tq (f + 1) (some k) b = re b := by simp [fitO, h, h1]
theorem fitO_node {f : Nat} {k a : Nat} {b : Int32} (h : ¬ b = 0) (h1 : ta k = some a) : fitO us pt re ta tp tq (f + 1) (some k) b = (us a b && (fitO us pt re ta tp tq f (tp k) (pt a b 0) && fitO us pt re ta tp tq f (tq k) (pt a b 1))) := by simp [fitO, h, h1]
end FITO
theorem o2i_nn {o : Option Nat} {N : Nat} (hN : N ≤ 2 ^ 31) (h : ∀ a, o = some a → a < N) (hne : ¬ o2i o = -1) : ∃ a, o = some a ∧ a < N := by
  cases o with
  | none => exact absurd rfl hne
  | some a => exact ⟨a, rfl, h a rfl⟩
abbrev fitS (σ : HS) (ta tp tq : Nat → Option Nat) : Nat → Option Nat → Int32 → Bool := fitO (usS σ) (ptS σ) (reS σ) ta tp tq
/-- carrying out: (did it come to the goal, how many actions, what came) -/
def crF (gl : Int32) (ta : Nat → Option Nat) (o : Option Nat) (s : Nat) : Bool := match o with
  | none => false
  | some k => match ta k with
    | none => bt gl s
    | some _ => false
def crO (us : Nat → Int32 → Bool) (y : Nat → Nat → Nat) (sn : Nat → Int32) (gl : Int32) (ta tp tq : Nat → Option Nat) : Nat → Option Nat → Nat → Nat → (Nat → Int32) → Bool × Nat × (Nat → Int32)
  | 0, o, s, m, tr => (crF gl ta o s, m, tr)
  | f + 1, o, s, m, tr => match o with
    | none => (false, m, tr)
    | some k => match ta k with
      | none => (bt gl s, m, tr)
      | some a => if us a ((1 : Int32) <<< (nI s &&& 31)) = true then crO us y sn gl ta tp tq f (if bt (sn a) (y a s) = true then tq k else tp k) (y a s) (m + 1) (upd tr m (nI (y a s))) else (false, m, tr)
section CRO
variable {us : Nat → Int32 → Bool} {y : Nat → Nat → Nat} {sn : Nat → Int32} {gl : Int32} {ta tp tq : Nat → Option Nat}
theorem crO_no {f s m : Nat} {tr : Nat → Int32} : crO us y sn gl ta tp tq f none s m tr = (false, m, tr) := by cases f <;> rfl
theorem crO_leaf {f k s m : Nat} {tr : Nat → Int32} (h : ta k = none) : crO us y sn gl ta tp tq f (some k) s m tr = (bt gl s, m, tr) := by cases f <;> simp [crO, crF, h]
theorem crO_stop {f k s m a : Nat} {tr : Nat → Int32} (h : ta k = some a) (hu : us a ((1 : Int32) <<< (nI s &&& 31)) = false) : crO us y sn gl ta tp tq (f + 1) (some k) s m tr = (false, m, tr) := by simp [crO, h, hu]
theorem crO_go {f k s m a : Nat} {tr : Nat → Int32} (h : ta k = some a) (hu : us a ((1 : Int32) <<< (nI s &&& 31)) = true) : crO us y sn gl ta tp tq (f + 1) (some k) s m tr = crO us y sn gl ta tp tq f (if bt (sn a) (y a s) = true then tq k else tp k) (y a s) (m + 1) (upd tr m (nI (y a s))) := by simp [crO, h, hu]
theorem crO_z {o : Option Nat} {s m : Nat} {tr : Nat → Int32} : crO us y sn gl ta tp tq 0 o s m tr = (crF gl ta o s, m, tr) := rfl
theorem crF_leaf {k s : Nat} (h : ta k = none) : crF gl ta (some k) s = bt gl s := by simp [crF, h]
theorem crF_node {k s a : Nat} (h : ta k = some a) : crF gl ta (some k) s = false := by simp [crF, h]
end CRO
abbrev crS (σ : HS) (y : Nat → Nat → Nat) (ta tp tq : Nat → Option Nat) : Nat → Option Nat → Nat → Nat → (Nat → Int32) → Bool × Nat × (Nat → Int32) := crO (usS σ) y (snS σ) (goS σ) ta tp tq
