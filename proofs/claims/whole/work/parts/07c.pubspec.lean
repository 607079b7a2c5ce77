/-! ===== the public methods' own words ===== -/
abbrev okNum (x : Int32) : Prop := ¬ x < 0 ∧ x < 8
abbrev okBits (x z : Int32) : Prop := (¬ x < 0 ∧ x ≤ 15) ∧ ¬ z < 0 ∧ z ≤ 15
abbrev okDepth (x : Int32) : Prop := ¬ x < 0 ∧ x ≤ 4
def demF (p0 p1 : Int32) : Nat → Bool := fun k => decide ((nI k &&& p0) = (p1 &&& p0))
def alwF (p0 p1 : Int32) : Nat → Bool := fun k => decide ((nI k &&& p0) ≠ 0) || decide (((nI k ^^^ (-1)) &&& p1) ≠ 0)
def tiI : Option Nat → Int32
  | none => 0
  | some 0 => 43690
  | some 1 => 52428
  | some 2 => 61680
  | some _ => 65280
theorem tiI_at {j : Nat} : tiF j = .int (tiI (some j)) := by
  match j with
  | 0 => rfl
  | 1 => rfl
  | 2 => rfl
  | _ + 3 => rfl
def cntA (ac : Nat → Nat → Int32) : Nat → Nat
  | 0 => 0
  | n + 1 => if ac n 0 = 0 then cntA ac n else cntA ac n + 1
theorem cntA_le (ac : Nat → Nat → Int32) : ∀ n, cntA ac n ≤ n := by
  intro n
  induction n with
  | zero => exact Nat.le_refl 0
  | succ n ih => unfold cntA; split <;> omega
abbrev RMo : Room := { frames := 40, cells := 0, slots := 0, locals := 900 }
abbrev RMx : Room := { frames := 30, cells := 1, slots := 6, locals := 700 }
def hfFX (dC : Nat → ClassId) (dI : Nat → Nat → Nat) (A : Nat → Nat) (cI cQ : ClassId) (sz : Nat) (σ : HS) (U : State) : Prop := hfF dC dI A cI cQ sz σ U ∧ HX (va_A (hfW A cI cQ σ) sz) U U.heap
theorem bl_FX {av : List Value} {dC : Nat → ClassId} {dI : Nat → Nat → Nat} {A : Nat → Nat} {cI cQ : ClassId} {sz : Nat} {σ : HS} : FrameBlind (va_Pc av (hfFX dC dI A cI cQ sz σ)) := fun a U g mk q => ⟨q.1, ⟨q.2.1.1, q.2.1.2.1, q.2.1.2.2.1.same g mk a, q.2.1.2.2.2⟩, HX.moved (U := U.calling g mk a) (Vm.Alike.refl U.vm) q.2.2⟩
