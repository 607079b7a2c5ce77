/-! ===== statics that lie outside the region V; methods that throw ===== -/
def tiF (j : Nat) : Value := match j with
  | 0 => .int 43690
  | 1 => .int 52428
  | 2 => .int 61680
  | _ => .int 65280
def HX (V : Nat → Prop) (U : State) (H : Heap) : Prop := vx_Zq Bundle.tN "UNASSIGNED_STACK" Bundle.steD V U H ∧ vx_Zq Bundle.tN "SUPPRESSED_SENTINEL" Bundle.listD V U H ∧ ∃ t : Nat, va_Z RX3 "TRUE_IN" "[I" (.ref t) V U H ∧ va_T .int t 4 tiF V U H
theorem HX.moved {V : Nat → Prop} {u U : State} {H : Heap} (hvm : u.vm.Alike U.vm) (h : HX V u H) : HX V U H := by
  obtain ⟨h1, h2, t, h3, h4⟩ := h
  exact ⟨vx_Zq.moved hvm h1, vx_Zq.moved hvm h2, t, va_Z.moved hvm h3, va_T.moved hvm h4⟩
theorem HX.kept {V : Nat → Prop} {U : State} {H H1 : Heap} (h : HX V U H) (hq : ∀ a : Nat, a < H.size → ¬ V a → H1[a]? = H[a]?) : HX V U H1 := by
  obtain ⟨h1, h2, t, h3, h4⟩ := h
  exact ⟨vx_Zq.kept h1 hq, vx_Zq.kept h2 hq, t, va_Z.kept h3 hq, va_T.kept h4 hq⟩
theorem HX.narrow {V V' : Nat → Prop} {U : State} {H : Heap} (h : HX V U H) (hAB : ∀ q, V' q → V q) : HX V' U H := by
  obtain ⟨h1, h2, t, h3, h4⟩ := h
  exact ⟨vx_Zq.narrow h1 hAB, vx_Zq.narrow h2 hAB, t, va_Z.narrow h3 hAB, va_T.narrow h4 hAB⟩
theorem XB_ot : ∀ w ∈ XB, w.onTables = true := by decide +kernel
theorem KX.xb {dC : Nat → ClassId} {dI : Nat → Nat → Nat} {cI cQ : ClassId} {s : State} (h : KX dC dI cI cQ s) (args : Array Value) : ∀ w ∈ XB, w.before args s = true := fun w hw => va_Nw.use (XB_ot w hw) (h.2.1 w hw)
/-- the start of a method that throws: nothing has been made or written -/
def PTs (dC : Nat → ClassId) (dI : Nat → Nat → Nat) (cI cQ : ClassId) (sz : Nat) (U : State) : Prop := U.heap.size = sz ∧ KX dC dI cI cQ U ∧ HX (fun q => sz ≤ q) U U.heap
def PTw (dC : Nat → ClassId) (dI : Nat → Nat → Nat) (A : Nat → Nat) (cI cQ : ClassId) (sz : Nat) (σ : HS) (U : State) : Prop := U.heap.size = sz ∧ va_P (dC, dI) vwCl (hfW A cI cQ σ) U.heap ∧ KX dC dI cI cQ U ∧ HX (fun q => sz ≤ q) U U.heap
theorem bl_Ts {av : List Value} {dC : Nat → ClassId} {dI : Nat → Nat → Nat} {cI cQ : ClassId} {sz : Nat} : FrameBlind (va_Pc av (PTs dC dI cI cQ sz)) := fun a U g mk q => ⟨q.1, q.2.1, q.2.2.1.same g mk a, HX.moved (U := U.calling g mk a) (Vm.Alike.refl U.vm) q.2.2.2⟩
theorem bl_Tw {av : List Value} {dC : Nat → ClassId} {dI : Nat → Nat → Nat} {A : Nat → Nat} {cI cQ : ClassId} {sz : Nat} {σ : HS} : FrameBlind (va_Pc av (PTw dC dI A cI cQ sz σ)) := fun a U g mk q => ⟨q.1, q.2.1, q.2.2.1, q.2.2.2.1.same g mk a, HX.moved (U := U.calling g mk a) (Vm.Alike.refl U.vm) q.2.2.2.2⟩
abbrev xcE (sz : Nat) (E : String) : String → State → State → Prop := vx_X (fun _ : Unit => True) (fun E' _ _ => E' = E) (fun q => sz ≤ q)
abbrev qvE (sz : Nat) : Array Value → State → Outcome → State → Prop := va_Qv (fun _ : Unit => False) (fun _ _ => True) (fun q => sz ≤ q)
abbrev qiE (sz : Nat) : Array Value → State → Outcome → State → Prop := va_Qi (fun _ (_ : Unit) => False) (fun _ _ => True) (fun q => sz ≤ q)
abbrev nIO : String := "java/lang/IndexOutOfBoundsException"
abbrev nIA : String := "java/lang/IllegalArgumentException"
abbrev nIS : String := "java/lang/IllegalStateException"
abbrev nUO : String := "java/lang/UnsupportedOperationException"
abbrev nNS : String := "java/util/NoSuchElementException"
abbrev upE : List String := ["java/lang/RuntimeException", "java/lang/Exception"]
theorem xbIO : ∀ w ∈ (vx_atS RX3 148 nIO upE).filter (fun w => !goodWord w), w ∈ XB := by decide +kernel
theorem xbIA : ∀ w ∈ (vx_atS RX3 53 nIA upE).filter (fun w => !goodWord w), w ∈ XB := by decide +kernel
theorem xbIS : ∀ w ∈ (vx_atS RX3 79 nIS upE).filter (fun w => !goodWord w), w ∈ XB := by decide +kernel
theorem xbUO : ∀ w ∈ (vx_atS RX3 115 nUO upE).filter (fun w => !goodWord w), w ∈ XB := by decide +kernel
theorem xbNS : ∀ w ∈ (xn_atS RX3 198 nNS upE).filter (fun w => !goodWord w), w ∈ XB := by decide +kernel
theorem goIO : ∀ w ∈ Cond.classLink RX3 144 nIO :: Cond.initialized nIO :: vx_atS RX3 148 nIO upE, vx_ot w = true := by decide +kernel
theorem goIA : ∀ w ∈ Cond.classLink RX3 49 nIA :: Cond.initialized nIA :: vx_atS RX3 53 nIA upE, vx_ot w = true := by decide +kernel
theorem goIS : ∀ w ∈ Cond.classLink RX3 75 nIS :: Cond.initialized nIS :: vx_atS RX3 79 nIS upE, vx_ot w = true := by decide +kernel
theorem goUO : ∀ w ∈ Cond.classLink RX3 111 nUO :: Cond.initialized nUO :: vx_atS RX3 115 nUO upE, vx_ot w = true := by decide +kernel
theorem goNS : ∀ w ∈ Cond.classLink RX3 194 nNS :: Cond.initialized nNS :: xn_atS RX3 198 nNS upE, vx_ot w = true := by decide +kernel
