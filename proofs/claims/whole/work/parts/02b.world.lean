
/-! ===== the class's world: 24 cells at the addresses A 0 .. A 23 ===== -/
def hfL (A : Nat → Nat) (cI cQ : ClassId) (cl st go hi ma ct : Int32) (tc : Nat → Int32) (be : Int32) (co ap tr : Nat → Int32) (ac nx : Nat → Nat → Int32) : va_W :=
  [(A 0, .inr (3, [.ref (A 1), .ref (A 2), .ref (A 4), .ref (A 7), .int cl, .int st, .int go, .int hi, .int ma])),
   (A 1, .inl (cQ, 8, .inr (.inr (.inr (.inr (fun a => some (A (8 + a)))))))),
   (A 2, .inr (2, [.ref (A 3), .int ct])),
   (A 3, .inl (cI, 93, .inl tc)),
   (A 4, .inr (1, [.ref (A 5), .ref (A 6), .int be])),
   (A 5, .inl (cI, 64, .inl co)),
   (A 6, .inl (cI, 16, .inl ap)),
   (A 7, .inl (cI, 4, .inl tr))] ++
  (List.range 8).map (fun a => (A (8 + a), .inr (0, [.int (ac a 0), .int (ac a 1), .int (ac a 2), .int (ac a 3), .ref (A (16 + a))]))) ++
  (List.range 8).map (fun a => (A (16 + a), .inl (cI, 16, .inl (nx a))))
abbrev HS : Type := (Int32 × Int32 × Int32 × Int32 × Int32) × (Int32 × (Nat → Int32)) × (Int32 × (Nat → Int32) × (Nat → Int32)) × (Nat → Int32) × (Nat → Nat → Int32) × (Nat → Nat → Int32)
abbrev hfW (A : Nat → Nat) (cI cQ : ClassId) (σ : HS) : va_W :=
  hfL A cI cQ σ.1.1 σ.1.2.1 σ.1.2.2.1 σ.1.2.2.2.1 σ.1.2.2.2.2 σ.2.1.1 σ.2.1.2 σ.2.2.1.1 σ.2.2.1.2.1 σ.2.2.1.2.2 σ.2.2.2.1 σ.2.2.2.2.1 σ.2.2.2.2.2
abbrev hfT (cI cQ : ClassId) : List (ClassId × FieldType) := [(cI, .int), (cQ, .object "HiddenFacts$Action")]
def up2 (f : Nat → Nat → Int32) (a k : Nat) (v : Int32) : Nat → Nat → Int32 := fun b j => if b = a then (if j = k then v else f b j) else f b j
theorem lt8 {P : Nat → Prop} (h0 : P 0) (h1 : P 1) (h2 : P 2) (h3 : P 3) (h4 : P 4) (h5 : P 5) (h6 : P 6) (h7 : P 7) {a : Nat} (ha : a < 8) : P a := by
  match a, ha with
  | 0, _ => exact h0
  | 1, _ => exact h1
  | 2, _ => exact h2
  | 3, _ => exact h3
  | 4, _ => exact h4
  | 5, _ => exact h5
  | 6, _ => exact h6
  | 7, _ => exact h7
section HFL
variable {A : Nat → Nat} {cI cQ : ClassId} {cl st go hi ma ct : Int32} {tc : Nat → Int32} {be : Int32} {co ap tr : Nat → Int32} {ac nx : Nat → Nat → Int32}
theorem hf_act {a : Nat} (ha : a < 8) : (hfL A cI cQ cl st go hi ma ct tc be co ap tr ac nx)[8 + a]? = some (A (8 + a), .inr (0, [.int (ac a 0), .int (ac a 1), .int (ac a 2), .int (ac a 3), .ref (A (16 + a))])) :=
  lt8 (P := fun a => (hfL A cI cQ cl st go hi ma ct tc be co ap tr ac nx)[8 + a]? = some (A (8 + a), .inr (0, [.int (ac a 0), .int (ac a 1), .int (ac a 2), .int (ac a 3), .ref (A (16 + a))]))) rfl rfl rfl rfl rfl rfl rfl rfl ha
theorem hf_nxt {a : Nat} (ha : a < 8) : (hfL A cI cQ cl st go hi ma ct tc be co ap tr ac nx)[16 + a]? = some (A (16 + a), .inl (cI, 16, .inl (nx a))) :=
  lt8 (P := fun a => (hfL A cI cQ cl st go hi ma ct tc be co ap tr ac nx)[16 + a]? = some (A (16 + a), .inl (cI, 16, .inl (nx a)))) rfl rfl rfl rfl rfl rfl rfl rfl ha
theorem hf_setN {a : Nat} (ha : a < 8) (f : Nat → Int32) : (hfL A cI cQ cl st go hi ma ct tc be co ap tr ac nx).set (16 + a) (A (16 + a), .inl (cI, 16, .inl f)) = hfL A cI cQ cl st go hi ma ct tc be co ap tr ac (va_up nx a f) :=
  lt8 (P := fun a => (hfL A cI cQ cl st go hi ma ct tc be co ap tr ac nx).set (16 + a) (A (16 + a), .inl (cI, 16, .inl f)) = hfL A cI cQ cl st go hi ma ct tc be co ap tr ac (va_up nx a f)) rfl rfl rfl rfl rfl rfl rfl rfl ha
theorem hf_setA (k : Nat) (hk : k < 4) {a : Nat} (ha : a < 8) (v : Int32) : (hfL A cI cQ cl st go hi ma ct tc be co ap tr ac nx).set (8 + a) (A (8 + a), .inr (0, ([.int (ac a 0), .int (ac a 1), .int (ac a 2), .int (ac a 3), .ref (A (16 + a))] : List Value).set k (.int v))) = hfL A cI cQ cl st go hi ma ct tc be co ap tr (up2 ac a k v) nx := by
  match k, hk with
  | 0, _ => exact lt8 (P := fun a => (hfL A cI cQ cl st go hi ma ct tc be co ap tr ac nx).set (8 + a) (A (8 + a), .inr (0, ([.int (ac a 0), .int (ac a 1), .int (ac a 2), .int (ac a 3), .ref (A (16 + a))] : List Value).set 0 (.int v))) = hfL A cI cQ cl st go hi ma ct tc be co ap tr (up2 ac a 0 v) nx) rfl rfl rfl rfl rfl rfl rfl rfl ha
  | 1, _ => exact lt8 (P := fun a => (hfL A cI cQ cl st go hi ma ct tc be co ap tr ac nx).set (8 + a) (A (8 + a), .inr (0, ([.int (ac a 0), .int (ac a 1), .int (ac a 2), .int (ac a 3), .ref (A (16 + a))] : List Value).set 1 (.int v))) = hfL A cI cQ cl st go hi ma ct tc be co ap tr (up2 ac a 1 v) nx) rfl rfl rfl rfl rfl rfl rfl rfl ha
  | 2, _ => exact lt8 (P := fun a => (hfL A cI cQ cl st go hi ma ct tc be co ap tr ac nx).set (8 + a) (A (8 + a), .inr (0, ([.int (ac a 0), .int (ac a 1), .int (ac a 2), .int (ac a 3), .ref (A (16 + a))] : List Value).set 2 (.int v))) = hfL A cI cQ cl st go hi ma ct tc be co ap tr (up2 ac a 2 v) nx) rfl rfl rfl rfl rfl rfl rfl rfl ha
  | 3, _ => exact lt8 (P := fun a => (hfL A cI cQ cl st go hi ma ct tc be co ap tr ac nx).set (8 + a) (A (8 + a), .inr (0, ([.int (ac a 0), .int (ac a 1), .int (ac a 2), .int (ac a 3), .ref (A (16 + a))] : List Value).set 3 (.int v))) = hfL A cI cQ cl st go hi ma ct tc be co ap tr (up2 ac a 3 v) nx) rfl rfl rfl rfl rfl rfl rfl rfl ha
end HFL
/-- words of the tables that don't ride in a method's own list: links among nest mates, declared constructors, casts -/
def XB : List Cond := [.methodLinkNest RX3 17 yX2_init RX3, .fieldLinkNest RX3 138 RX2 "count" "I" RX3, .methodLinkNest RX3 24 yX1_init RX3, .methodLinkNest RX3 33 yX0_init RX3, .fieldLinkNest RX3 37 RX0 "there" "Z" RX3,
  .fieldLinkNest RX3 71 RX0 "effects" "I" RX3, .fieldLinkNest RX1 22 RX0 "next" "[I" RX3, .fieldLinkNest RX3 238 RX0 "next" "[I" RX3, .methodLinkNest RX0 29 yX3_isIn RX3, .methodLinkNest RX1 31 yX3_isIn RX3,
  .declares (Bundle.initS "java/lang/RuntimeException"), .declares (Bundle.initS "java/lang/Exception"), .declares (Bundle.initS "java/lang/Throwable"),
  .castable "java/lang/IndexOutOfBoundsException" "java/lang/IndexOutOfBoundsException", .castable "java/lang/IllegalArgumentException" "java/lang/IllegalArgumentException", .castable "java/lang/IllegalStateException" "java/lang/IllegalStateException", .castable "java/lang/UnsupportedOperationException" "java/lang/UnsupportedOperationException", .castable "java/util/NoSuchElementException" "java/util/NoSuchElementException"]
def XS : List (Nat × String) := [(199, "no such number of an action"), (203, "not bits of the facts"), (51, "no such fact to sense"), (201, "the action is not there"), (69, "no such fact"), (77, "the action has all its effects"), (87, "all clauses are there"), (105, "no belief"), (113, "the action is not usable in the belief"), (119, "no belief, or the empty one"), (205, "no such depth"), (207, "the belief is not solved"), (130, "the start belief is empty"), (209, "no such node"), (146, "a node has no such part"), (152, "a leaf has no action"), (211, "there is no plan"), (164, "no such state"), (173, "no state is hidden"), (182, "no such action was made"), (196, "all states can be told apart")]
def KX (dC : Nat → ClassId) (dI : Nat → Nat → Nat) (cI cQ : ClassId) (U : State) : Prop := va_K (dC, dI) vwCl (hfT cI cQ) U ∧ (∀ w ∈ XB, va_Nw w U) ∧ ∀ q ∈ XS, ∃ sa : Nat, vk_R RX3 q.1 q.2 sa U
theorem KX.warm {dC : Nat → ClassId} {dI : Nat → Nat → Nat} {cI cQ : ClassId} {s U : State} (hW : s.WarmedH U.vm) (h : KX dC dI cI cQ s) : KX dC dI cI cQ U := by
  refine ⟨va_K.moved hW.alike h.1, fun w hw => ?_, fun q hq => ?_⟩
  · have h1 := h.2.1 w hw
    simp only [XB, List.mem_cons, List.not_mem_nil, or_false] at hw
    rcases hw with rfl | rfl | rfl | rfl | rfl | rfl | rfl | rfl | rfl | rfl | rfl | rfl | rfl | rfl | rfl | rfl | rfl | rfl <;>
      first | exact va_Nw.warmM hW h1 | exact va_Nw.warmF hW h1 | exact va_Nw.warmD hW h1 | exact va_Nw.warmC hW h1
  · obtain ⟨sa, h1⟩ := h.2.2 q hq
    exact ⟨sa, vk_R.warm hW h1⟩
theorem KX.same {dC : Nat → ClassId} {dI : Nat → Nat → Nat} {cI cQ : ClassId} {s : State} (h : KX dC dI cI cQ s) (g : JFrame) (mk : MethodId) (a : Array Value) : KX dC dI cI cQ (s.calling g mk a) :=
  KX.warm (U := s.calling g mk a) (State.WarmedH.refl s) h
/-- the world as a callee that only reads sees it -/
def hfP (dC : Nat → ClassId) (dI : Nat → Nat → Nat) (A : Nat → Nat) (cI cQ : ClassId) (σ : HS) (U : State) : Prop := va_P (dC, dI) vwCl (hfW A cI cQ σ) U.heap ∧ KX dC dI cI cQ U
/-- the world as a callee that writes sees it -/
def hfF (dC : Nat → ClassId) (dI : Nat → Nat → Nat) (A : Nat → Nat) (cI cQ : ClassId) (sz : Nat) (σ : HS) (U : State) : Prop := U.heap.size = sz ∧ va_P (dC, dI) vwCl (hfW A cI cQ σ) U.heap ∧ KX dC dI cI cQ U ∧ va_D (fun _ => True) (hfW A cI cQ σ)
/-- and as it leaves it -/
def hfB (dC : Nat → ClassId) (dI : Nat → Nat → Nat) (A : Nat → Nat) (cI cQ : ClassId) (V : Nat → Prop) (σ : HS) (t : State) : Prop := va_P (dC, dI) vwCl (hfW A cI cQ σ) t.heap ∧ va_D V (hfW A cI cQ σ)
theorem bl_T {av : List Value} : FrameBlind (va_Pc av (fun _ => True)) := fun _ _ _ _ q => q
theorem bl_K {av : List Value} {dC : Nat → ClassId} {dI : Nat → Nat → Nat} {cI cQ : ClassId} : FrameBlind (va_Pc av (KX dC dI cI cQ)) := fun a U g mk q => ⟨q.1, q.2.same g mk a⟩
theorem bl_P {av : List Value} {dC : Nat → ClassId} {dI : Nat → Nat → Nat} {A : Nat → Nat} {cI cQ : ClassId} {σ : HS} : FrameBlind (va_Pc av (hfP dC dI A cI cQ σ)) := fun a U g mk q => ⟨q.1, q.2.1, q.2.2.same g mk a⟩
theorem bl_F {av : List Value} {dC : Nat → ClassId} {dI : Nat → Nat → Nat} {A : Nat → Nat} {cI cQ : ClassId} {sz : Nat} {σ : HS} : FrameBlind (va_Pc av (hfF dC dI A cI cQ sz σ)) := fun a U g mk q => ⟨q.1, q.2.1, q.2.2.1, q.2.2.2.1.same g mk a, q.2.2.2.2⟩
/-- the addresses of the world don't hang on what it holds -/
theorem hfA_eq {A : Nat → Nat} {cI cQ : ClassId} {σ τ : HS} {sz : Nat} : va_A (hfW A cI cQ σ) sz = va_A (hfW A cI cQ τ) sz := by
  have key : ∀ (σ τ : HS) (k q : Nat) (e : va_E), (hfW A cI cQ σ)[k]? = some (q, e) → ∃ e', (hfW A cI cQ τ)[k]? = some (q, e') := by
    intro σ τ k q e h
    have hl : ∀ σ : HS, (hfW A cI cQ σ).map Prod.fst = [A 0, A 1, A 2, A 3, A 4, A 5, A 6, A 7, A 8, A 9, A 10, A 11, A 12, A 13, A 14, A 15, A 16, A 17, A 18, A 19, A 20, A 21, A 22, A 23] := fun _ => rfl
    have h1 : ((hfW A cI cQ σ).map Prod.fst)[k]? = some q := by rw [List.getElem?_map, h]; rfl
    rw [hl σ, ← hl τ, List.getElem?_map] at h1
    cases h2 : (hfW A cI cQ τ)[k]? with
    | none => rw [h2] at h1; cases h1
    | some x => obtain ⟨q2, e2⟩ := x; rw [h2] at h1; cases h1; exact ⟨e2, rfl⟩
  funext q
  apply propext
  constructor
  · rintro (⟨k, e, h⟩ | h)
    · obtain ⟨e', h'⟩ := key σ τ k q e h; exact Or.inl ⟨k, e', h'⟩
    · exact Or.inr h
  · rintro (⟨k, e, h⟩ | h)
    · obtain ⟨e', h'⟩ := key τ σ k q e h; exact Or.inl ⟨k, e', h'⟩
    · exact Or.inr h
