/-! ===== making the object ===== -/
theorem arr_same {D : va_G} {cl : List vw_C} {tys : List (ClassId × FieldType)} {s : State} {cI cA : ClassId} (hK : va_K D cl tys s) (h0 : tys[0]? = some (cI, .int)) (hK2 : va_K D cl (tys ++ [(cA, .int)]) s) : cI = cA := by
  have h1 := (hK.2 0 _ h0).2
  have h2 := (hK2.2 tys.length (cA, .int) (by rw [List.getElem?_append_right (Nat.le_refl _), Nat.sub_self]; rfl)).2
  exact Option.some.inj (Eq.trans (Eq.symm h1) h2)
theorem arr_sameQ {D : va_G} {cl : List vw_C} {tys : List (ClassId × FieldType)} {s : State} {cQ cA : ClassId} {C : String} (hK : va_K D cl tys s) {k : Nat} (h0 : tys[k]? = some (cQ, .object C)) (hK2 : va_K D cl (tys ++ [(cA, .object C)]) s) : cQ = cA := by
  obtain ⟨_, _, _, _, _, h1⟩ := (hK.2 k _ h0).2
  obtain ⟨_, _, _, _, _, h2⟩ := (hK2.2 tys.length (cA, .object C) (by rw [List.getElem?_append_right (Nat.le_refl _), Nat.sub_self]; rfl)).2
  exact Option.some.inj (h1.symm.trans h2)
theorem arrV_congr {c : ClassId} {n : Nat} {f g : Nat → Value} (h : ∀ j, j < n → f j = g j) : arrV c n f = arrV c n g := by
  unfold arrV
  have : (Array.ofFn (n := n) fun j => f j.val) = Array.ofFn (n := n) fun j => g j.val := by congr 1; funext j; exact h j.val j.isLt
  rw [this]
theorem arrq_congr {D : va_G} {cl : List vw_C} {ws : va_W} {H : Heap} {k a n : Nat} {cA : ClassId} {f g : Nat → Option Nat} (hP : va_P D cl ws H) (hk : ws[k]? = some (a, .inl (cA, n, .inr (.inr (.inr (.inr f)))))) (h : ∀ j, j < n → f j = g j) :
    va_P D cl (ws.set k (a, .inl (cA, n, .inr (.inr (.inr (.inr g)))))) H := by
  intro i q hi
  by_cases e : i = k
  · subst e
    have hlt : i < ws.length := (List.getElem?_eq_some_iff.mp hk).1
    rw [List.getElem?_set_self hlt] at hi
    cases hi
    have h1 : H[a]? = some (arrV cA n (fun j => va_rf (f j))) := hP i _ hk
    show H[a]? = some (arrV cA n (fun j => va_rf (g j)))
    rw [h1, arrV_congr (fun j hj => by rw [h j hj])]
  · rw [List.getElem?_set_ne (fun z => e z.symm)] at hi
    exact hP i q hi
def kN (dC : Nat → ClassId) (dI : Nat → Nat → Nat) (cI cQ : ClassId) (sz : Nat) (ws : va_W) (U : State) : Prop := U.heap.size = sz ∧ va_P (dC, dI) vwCl ws U.heap ∧ KX dC dI cI cQ U ∧ va_D (fun _ => True) ws
theorem bl_N {av : List Value} {dC : Nat → ClassId} {dI : Nat → Nat → Nat} {cI cQ : ClassId} {sz : Nat} {ws : va_W} : FrameBlind (va_Pc av (kN dC dI cI cQ sz ws)) := fun a U g mk q => ⟨q.1, q.2.1, q.2.2.1, q.2.2.2.1.same g mk a, q.2.2.2.2⟩
/-- a world behind a maker -/
def kB (dC : Nat → ClassId) (dI : Nat → Nat → Nat) (V : Nat → Prop) (ws : va_W) (t : State) : Prop := va_P (dC, dI) vwCl ws t.heap ∧ va_D V ws
