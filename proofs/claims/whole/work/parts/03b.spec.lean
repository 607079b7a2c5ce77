/-! ===== what 'solved' and 'least action' are, over any way to be usable, to have parts, to be reached ===== -/
def clS (σ : HS) : Int32 := σ.1.1
def stS (σ : HS) : Int32 := σ.1.2.1
def goS (σ : HS) : Int32 := σ.1.2.2.1
def hiS (σ : HS) : Int32 := σ.1.2.2.2.1
def maS (σ : HS) : Int32 := σ.1.2.2.2.2
def ctS (σ : HS) : Int32 := σ.2.1.1
def tcS (σ : HS) : Nat → Int32 := σ.2.1.2
def beS (σ : HS) : Int32 := σ.2.2.1.1
def coS (σ : HS) : Nat → Int32 := σ.2.2.1.2.1
def apS (σ : HS) : Nat → Int32 := σ.2.2.1.2.2
def trS (σ : HS) : Nat → Int32 := σ.2.2.2.1
def reS (σ : HS) (b : Int32) : Bool := decide (b &&& (goS σ ^^^ (-1)) = 0)
def first8 (P : Nat → Bool) : Option Nat := (List.range 8).find? P
def o2i : Option Nat → Int32
  | none => -1
  | some k => nI k
theorem find_at {P : Nat → Bool} {n k : Nat} (hk : k < n) (h : P k = true) (hj : ∀ j, j < k → P j = false) : (List.range n).find? P = some k :=
  List.find?_range_eq_some.mpr ⟨h, List.mem_range.mpr hk, fun j hj2 => by rw [hj j hj2]; rfl⟩
theorem find_no {P : Nat → Bool} {n : Nat} (hj : ∀ j, j < n → P j = false) : (List.range n).find? P = none :=
  List.find?_range_eq_none.mpr fun j hj2 => by rw [hj j hj2]; rfl
theorem first8_lt {P : Nat → Bool} {a : Nat} (h : first8 P = some a) : a < 8 ∧ P a = true := by
  have q := List.find?_range_eq_some.mp h
  exact ⟨List.mem_range.mp q.2.1, q.1⟩
def slv (us : Nat → Int32 → Bool) (pt : Nat → Int32 → Int32 → Int32) (re : Int32 → Bool) : Nat → Int32 → Bool
  | 0, b => re b
  | n + 1, b => re b || (first8 (fun a => us a b && (slv us pt re n (pt a b 0) && slv us pt re n (pt a b 1)))).isSome
def lea (us : Nat → Int32 → Bool) (pt : Nat → Int32 → Int32 → Int32) (re : Int32 → Bool) : Nat → Int32 → Option Nat
  | 0, _ => none
  | n + 1, b => first8 (fun a => us a b && (slv us pt re n (pt a b 0) && slv us pt re n (pt a b 1)))
theorem slv_lea (us : Nat → Int32 → Bool) (pt : Nat → Int32 → Int32 → Int32) (re : Int32 → Bool) (n : Nat) (b : Int32) : slv us pt re n b = (re b || (lea us pt re n b).isSome) := by
  cases n with
  | zero => simp [slv, lea]
  | succ n => rfl
theorem o2i_none {o : Option Nat} (h : ∀ a, o = some a → a < 2 ^ 31) : o2i o = -1 ↔ o = none := by
  cases o with
  | none => exact ⟨fun _ => rfl, fun _ => rfl⟩
  | some a =>
    refine ⟨fun q => ?_, fun q => nomatch q⟩
    have h1 : (nI a).toInt = (a : Int) := nI_toInt (h a rfl)
    have h2 : (nI a).toInt = -1 := by rw [show nI a = -1 from q]; decide
    omega
def ptS (σ : HS) (a : Nat) (b w : Int32) : Int32 := paS σ a (afS σ a b) w
abbrev slS (σ : HS) : Nat → Int32 → Bool := slv (usS σ) (ptS σ) (reS σ)
abbrev leS (σ : HS) : Nat → Int32 → Option Nat := lea (usS σ) (ptS σ) (reS σ)
theorem lea_lt {us : Nat → Int32 → Bool} {pt : Nat → Int32 → Int32 → Int32} {re : Int32 → Bool} {n : Nat} {b : Int32} {a : Nat} (h : lea us pt re n b = some a) : a < 8 := by
  cases n with
  | zero => cases h
  | succ n => exact (first8_lt h).1
theorem leS_none {us : Nat → Int32 → Bool} {pt : Nat → Int32 → Int32 → Int32} {re : Int32 → Bool} {n : Nat} {b : Int32} : o2i (lea us pt re n b) = -1 ↔ lea us pt re n b = none := o2i_none fun a h => by have := lea_lt h; omega
def fewS (σ : HS) (b : Int32) (most : Nat) : Option Nat := (List.range (most + 1)).find? (fun n => slS σ n b)
