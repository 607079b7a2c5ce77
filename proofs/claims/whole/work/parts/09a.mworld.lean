/-! ===== the reference's world: an object and its arrays; sc: its numbers by the places of the fields, ar: its arrays by the same ===== -/
def mL (B : Nat → Nat) (cI cZ : ClassId) (sc : Nat → Int32) (ar : Nat → Nat → Int32) : va_W :=
  [(B 0, .inr (4, [.int (sc 0), .ref (B 1), .ref (B 2), .ref (B 3), .ref (B 4), .ref (B 5), .ref (B 6), .ref (B 7), .ref (B 8), .ref (B 9), .int (sc 10), .ref (B 11), .ref (B 12), .int (sc 13), .int (sc 14), .int (sc 15), .ref (B 16), .ref (B 17), .ref (B 18), .ref (B 19), .ref (B 20), .ref (B 21), .ref (B 22), .ref (B 23), .ref (B 24), .ref (B 25), .ref (B 26), .ref (B 27), .int (sc 28), .int (sc 29), .ref (B 30), .ref (B 31), .ref (B 32)])),
   (B 1, .inl (cZ, 8, .inl (ar 1))),
   (B 2, .inl (cI, 8, .inl (ar 2))),
   (B 3, .inl (cI, 8, .inl (ar 3))),
   (B 4, .inl (cI, 8, .inl (ar 4))),
   (B 5, .inl (cI, 8, .inl (ar 5))),
   (B 6, .inl (cI, 32, .inl (ar 6))),
   (B 7, .inl (cZ, 32, .inl (ar 7))),
   (B 8, .inl (cI, 32, .inl (ar 8))),
   (B 9, .inl (cI, 32, .inl (ar 9))),
   (B 11, .inl (cI, 6, .inl (ar 11))),
   (B 12, .inl (cI, 6, .inl (ar 12))),
   (B 16, .inl (cI, 32, .inl (ar 16))),
   (B 17, .inl (cI, 32, .inl (ar 17))),
   (B 18, .inl (cI, 32, .inl (ar 18))),
   (B 19, .inl (cI, 6, .inl (ar 19))),
   (B 20, .inl (cI, 6, .inl (ar 20))),
   (B 21, .inl (cI, 6, .inl (ar 21))),
   (B 22, .inl (cI, 64, .inl (ar 22))),
   (B 23, .inl (cI, 64, .inl (ar 23))),
   (B 24, .inl (cI, 64, .inl (ar 24))),
   (B 25, .inl (cI, 64, .inl (ar 25))),
   (B 26, .inl (cI, 64, .inl (ar 26))),
   (B 27, .inl (cI, 64, .inl (ar 27))),
   (B 30, .inl (cI, 8, .inl (ar 30))),
   (B 31, .inl (cI, 64, .inl (ar 31))),
   (B 32, .inl (cI, 16, .inl (ar 32)))]
abbrev MS : Type := (Nat → Int32) × (Nat → Nat → Int32)
abbrev mW (B : Nat → Nat) (cI cZ : ClassId) (τ : MS) : va_W := mL B cI cZ τ.1 τ.2
abbrev mT (cI cZ : ClassId) : List (ClassId × FieldType) := [(cI, .int), (cZ, .boolean)]
def mP (dC : Nat → ClassId) (dI : Nat → Nat → Nat) (B : Nat → Nat) (cI cZ : ClassId) (τ : MS) (U : State) : Prop := va_P (dC, dI) vwCl (mW B cI cZ τ) U.heap ∧ va_K (dC, dI) vwCl (mT cI cZ) U
def mF (dC : Nat → ClassId) (dI : Nat → Nat → Nat) (B : Nat → Nat) (cI cZ : ClassId) (sz : Nat) (τ : MS) (U : State) : Prop := U.heap.size = sz ∧ va_P (dC, dI) vwCl (mW B cI cZ τ) U.heap ∧ va_K (dC, dI) vwCl (mT cI cZ) U ∧ va_D (fun _ => True) (mW B cI cZ τ)
def mB (dC : Nat → ClassId) (dI : Nat → Nat → Nat) (B : Nat → Nat) (cI cZ : ClassId) (V : Nat → Prop) (τ : MS) (t : State) : Prop := va_P (dC, dI) vwCl (mW B cI cZ τ) t.heap ∧ va_D V (mW B cI cZ τ)
theorem bm_P {av : List Value} {dC : Nat → ClassId} {dI : Nat → Nat → Nat} {B : Nat → Nat} {cI cZ : ClassId} {τ : MS} : FrameBlind (va_Pc av (mP dC dI B cI cZ τ)) := fun a U g mk q => ⟨q.1, q.2.1, va_K.moved (u := U) (U := U.calling g mk a) (Vm.Alike.refl U.vm) q.2.2⟩
theorem bm_F {av : List Value} {dC : Nat → ClassId} {dI : Nat → Nat → Nat} {B : Nat → Nat} {cI cZ : ClassId} {sz : Nat} {τ : MS} : FrameBlind (va_Pc av (mF dC dI B cI cZ sz τ)) := fun a U g mk q => ⟨q.1, q.2.1, q.2.2.1, va_K.moved (u := U) (U := U.calling g mk a) (Vm.Alike.refl U.vm) q.2.2.2.1, q.2.2.2.2⟩
theorem m_free {B : Nat → Nat} {cI cZ : ClassId} {τ : MS} {V : Nat → Prop} {H0 H : Heap} {locs : List Loc} (hD : va_D V (mW B cI cZ τ)) (hS : va_S V H0 H locs) (hA : ∀ q, H0.size ≤ q → V q) : ∀ q, va_A (mW B cI cZ τ) H.size q → V q := by
  rintro q (⟨k, e, h⟩ | h)
  · exact hD.2 k _ h
  · exact hA q (Nat.le_trans hS.1 h)
theorem vp_narb (b : Bool) : vp_nar .boolean (b2i b) = b2i b := by cases b <;> rfl
/-! ===== its reads ===== -/
def allN (f : Nat → Bool) : Nat → Bool
  | 0 => true
  | n + 1 => allN f n && f n
theorem allN_false {f : Nat → Bool} {k n : Nat} (hk : k ≤ n) (h : allN f k = false) : allN f n = false := by
  induction n with
  | zero => rw [show k = 0 by omega] at h; exact h
  | succ n ih =>
    rcases Nat.lt_or_ge n k with z | z
    · rw [show k = n + 1 by omega] at h; exact h
    · unfold allN; rw [ih z]; rfl
theorem allN_iff {f : Nat → Bool} : ∀ {n : Nat}, allN f n = true ↔ ∀ j, j < n → f j = true := by
  intro n
  induction n with
  | zero => exact ⟨fun _ j hj => absurd hj (by omega), fun _ => rfl⟩
  | succ n ih =>
    unfold allN
    rw [Bool.and_eq_true, ih]
    exact ⟨fun h j hj => by rcases Nat.lt_or_ge j n with z | z; exact h.1 j z; rw [show j = n by omega]; exact h.2, fun h => ⟨fun j hj => h j (by omega), h n (by omega)⟩⟩
theorem b2i_1 {b : Bool} : b2i b = 1 ↔ b = true := by cases b <;> decide
theorem b2i_n1 {b : Bool} : ¬ b2i b = 1 ↔ b = false := by cases b <;> decide
theorem and_bit {k : Nat} (hk : k < 32) (r : Int32) : r &&& ((1 : Int32) <<< (nI k &&& 31)) = if bt r k = true then (1 : Int32) <<< (nI k &&& 31) else 0 := by
  apply b_ext
  intro i hi
  rw [b_and, b_one hk hi]
  by_cases h : i = k
  · subst h
    cases hq : bt r i
    · rw [if_neg (by decide), b_0]; rfl
    · rw [if_pos rfl, b_one hk hi]; simp
  · rw [decide_eq_false h, Bool.and_false]
    split
    · rw [b_one hk hi, decide_eq_false h]
    · exact (b_0 i).symm
def wiB (v lo hi : Int32) : Bool := decide (lo ≤ v) && decide (v ≤ hi)
def dmB (mm vv : Int32) : Bool := wiB mm 0 15 && wiB vv 0 15
def stR (τ : MS) (C : Nat) : Int32 := mk (fun s => allN (fun c => alwF (τ.2 11 c) (τ.2 12 c) s) C)
def usP (τ : MS) (a : Nat) (b : Int32) : Nat → Bool := fun s => !bt b s || demF (τ.2 2 a) (τ.2 3 a) s
def usR (th : Nat → Bool) (τ : MS) (a : Nat) (b : Int32) : Bool := th a && allN (usP τ a b) 16
def nxN (ar : Nat → Nat → Int32) (a s : Nat) : Nat → Int32
  | 0 => nI s
  | j + 1 => if demF (ar 8 (4 * a + j)) (ar 9 (4 * a + j)) s = true then (if ar 7 (4 * a + j) = 0 then nxN ar a s j &&& (((1 : Int32) <<< (ar 6 (4 * a + j) &&& 31)) ^^^ (-1)) else nxN ar a s j ||| ((1 : Int32) <<< (ar 6 (4 * a + j) &&& 31))) else nxN ar a s j
def afR (ef : Nat → Nat) (τ : MS) (a : Nat) (b : Int32) : Int32 := afN (fun s => nxN τ.2 a s (ef a)) b 16
def prF (x r w : Int32) : Nat → Bool := fun s => bt r s && decide (((nI s >>> (x &&& 31)) &&& 1) = w)
def ptR (ef : Nat → Nat) (τ : MS) (a : Nat) (b w : Int32) : Int32 := if ¬ 0 ≤ τ.2 4 a then (if w = 0 then afR ef τ a b else 0) else mk (prF (τ.2 4 a) (afR ef τ a b) w)
def reP (τ : MS) (b : Int32) : Nat → Bool := fun s => !bt b s || demF (τ.1 13) (τ.1 14) s
def reR (τ : MS) (b : Int32) : Bool := allN (reP τ b) 16
