/-! ===== a part of a world is changed, the rest stays ===== -/
theorem fr_L {D : va_G} {cl : List vw_C} {V : Nat → Prop} {w w' r : va_W} {H H1 : Heap} {sz : Nat} (hz : H.size = sz) (hP : va_P D cl (w ++ r) H) (hD : va_D V (w ++ r)) (hP1 : va_P D cl w' H1) (hD1 : va_D (va_A w sz) w') (hk : ∀ q : Nat, q < H.size → ¬ va_A w sz q → H1[q]? = H[q]?) :
    va_P D cl (w' ++ r) H1 ∧ va_D (va_A (w ++ r) sz) (w' ++ r) := by
  have hr : ∀ (k : Nat) (q : Nat × va_E), r[k]? = some q → (w ++ r)[w.length + k]? = some q := fun k q h => by rw [List.getElem?_append_right (by omega), show w.length + k - w.length = k by omega]; exact h
  have hw : ∀ (k : Nat) (q : Nat × va_E), w[k]? = some q → (w ++ r)[k]? = some q := fun k q h => by rw [List.getElem?_append_left (by have := (List.getElem?_eq_some_iff.mp h).1; exact this)]; exact h
  have hout : ∀ (k : Nat) (q : Nat × va_E), r[k]? = some q → q.1 < H.size ∧ ¬ va_A w sz q.1 := by
    intro k q h
    have hlt := vx_lt hP (hr k q h)
    refine ⟨hlt, ?_⟩
    rintro (⟨j, e, hj⟩ | h9)
    · have := hD.1 _ _ _ _ (hw j _ hj) (hr k q h) rfl
      have := (List.getElem?_eq_some_iff.mp hj).1
      omega
    · omega
  refine ⟨va_P.app hP1 fun k q h => (hP _ _ (hr k q h)).kept (hk _ (hout k q h).1 (hout k q h).2), ?_⟩
  refine va_D.app (hD1.weaken fun k q _ h9 => h9.elim (fun ⟨j, e, hj⟩ => Or.inl ⟨j, e, hw j _ hj⟩) Or.inr) ⟨fun i j p q hi hj e => ?_, fun k q h => va_A.in (hr k q h)⟩ fun i j p q hi hj e => ?_
  · have := hD.1 _ _ _ _ (hr i p hi) (hr j q hj) e
    omega
  · exact (hout j q hj).2 (by rw [← e]; exact hD1.2 i p hi)
theorem fr_R {D : va_G} {cl : List vw_C} {V : Nat → Prop} {w w' r : va_W} {H H1 : Heap} {sz : Nat} (hz : H.size = sz) (hP : va_P D cl (r ++ w) H) (hD : va_D V (r ++ w)) (hP1 : va_P D cl w' H1) (hD1 : va_D (va_A w sz) w') (hk : ∀ q : Nat, q < H.size → ¬ va_A w sz q → H1[q]? = H[q]?) :
    va_P D cl (r ++ w') H1 ∧ va_D (va_A (r ++ w) sz) (r ++ w') := by
  have hw : ∀ (k : Nat) (q : Nat × va_E), w[k]? = some q → (r ++ w)[r.length + k]? = some q := fun k q h => by rw [List.getElem?_append_right (by omega), show r.length + k - r.length = k by omega]; exact h
  have hr : ∀ (k : Nat) (q : Nat × va_E), r[k]? = some q → (r ++ w)[k]? = some q := fun k q h => by rw [List.getElem?_append_left (by have := (List.getElem?_eq_some_iff.mp h).1; exact this)]; exact h
  have hout : ∀ (k : Nat) (q : Nat × va_E), r[k]? = some q → q.1 < H.size ∧ ¬ va_A w sz q.1 := by
    intro k q h
    have hlt := vx_lt hP (hr k q h)
    refine ⟨hlt, ?_⟩
    rintro (⟨j, e, hj⟩ | h9)
    · have := hD.1 _ _ _ _ (hw j _ hj) (hr k q h) rfl
      have := (List.getElem?_eq_some_iff.mp h).1
      omega
    · omega
  refine ⟨va_P.app (fun k q h => (hP _ _ (hr k q h)).kept (hk _ (hout k q h).1 (hout k q h).2)) hP1, ?_⟩
  refine va_D.app ⟨fun i j p q hi hj e => hD.1 _ _ _ _ (hr i p hi) (hr j q hj) e, fun k q h => va_A.in (hr k q h)⟩ (hD1.weaken fun k q _ h9 => h9.elim (fun ⟨j, e, hj⟩ => Or.inl ⟨r.length + j, e, hw j _ hj⟩) Or.inr) fun i j p q hi hj e => ?_
  exact (hout i p hi).2 (by rw [e]; exact hD1.2 j q hj)
/-! ===== a call of the class: it returns v, or throws E ===== -/
abbrev RMc : Room := { frames := 40, cells := 1, slots := 6, locals := 900 }
def CRes (l : Launch) (dC : Nat → ClassId) (dI : Nat → Nat → Nat) (A : Nat → Nat) (cI cQ : ClassId) (σ : HS) (y : MethodName) (ws : List Cond) (av : List Value) (oE : Option String) (v : Int32) (S : HS → Prop) : Prop :=
  ∀ sz, vx_Met l y ws RMc (va_Pc av (hfFX dC dI A cI cQ sz σ)) (va_Qi (fun (r : Int32) (τ : HS) => oE = none ∧ r = v ∧ S τ) (hfB dC dI A cI cQ (va_A (hfW A cI cQ σ) sz)) (va_A (hfW A cI cQ σ) sz)) (vx_X S (fun E τ t => oE = some E ∧ hfB dC dI A cI cQ (va_A (hfW A cI cQ σ) sz) τ t) (va_A (hfW A cI cQ σ) sz)) 1 6 (va_A (hfW A cI cQ σ) sz)
theorem fe_mono {st t : State} {o : Outcome} {L : List Loc} {a b a' b' : Nat} (h : FrameEnd st o t L a b) (h1 : a ≤ a') (h2 : b ≤ b') : FrameEnd st o t L a' b' := ⟨h.1, h.2.1, h.2.2.mono h1 h2⟩
section CRES
variable {l : Launch} {dC : Nat → ClassId} {dI : Nat → Nat → Nat} {A : Nat → Nat} {cI cQ : ClassId} {σ : HS} {y : MethodName} {ws : List Cond} {av : List Value} {v : Int32} {S : HS → Prop} {E : String}
theorem CRes.read (h : Met l y ws RMo (va_Pc av (hfP dC dI A cI cQ σ)) (vp_Si (fun r => r = v)) 0 0 (fun _ => False)) : CRes l dC dI A cI cQ σ y ws av none v (fun τ => τ = σ) := by
  intro sz
  refine MetFree.mono (MetFree.respec (S' := headSpec ws RMc) h (fun _ _ q => q) (Nat.le_of_ble_eq_true rfl) (Nat.le_of_ble_eq_true rfl) (Nat.le_of_ble_eq_true rfl) (Nat.le_of_ble_eq_true rfl)) (fun a s q => ⟨q.1, q.2.1.2.1, q.2.1.2.2.1⟩) (fun _ _ _ _ _ q => q) ?_
  rintro a s o t ⟨_, ⟨_, hP, _, hD⟩, _⟩ ⟨⟨r, e1, e2, e3⟩, L, hF, hL⟩
  exact Or.inl ⟨⟨⟨r, σ, e1, ⟨rfl, e2, rfl⟩, by rw [e3]; exact hP, hD.self⟩, by rw [e3]; exact Nat.le_refl _, fun q _ _ => by rw [e3]⟩, L, fe_mono hF (Nat.zero_le _) (Nat.zero_le _), fun q hq => (hL q hq).elim⟩
theorem CRes.write (h : ∀ sz, Met l y ws RMo (va_Pc av (hfF dC dI A cI cQ sz σ)) (va_Qi (fun (r : Int32) (τ : HS) => r = v ∧ S τ) (hfB dC dI A cI cQ (va_A (hfW A cI cQ σ) sz)) (va_A (hfW A cI cQ σ) sz)) 0 0 (va_A (hfW A cI cQ σ) sz)) : CRes l dC dI A cI cQ σ y ws av none v S := by
  intro sz
  refine MetFree.mono (MetFree.respec (S' := headSpec ws RMc) (h sz) (fun _ _ q => q) (Nat.le_of_ble_eq_true rfl) (Nat.le_of_ble_eq_true rfl) (Nat.le_of_ble_eq_true rfl) (Nat.le_of_ble_eq_true rfl)) (fun a s q => ⟨q.1, q.2.1⟩) (fun _ _ _ _ _ q => q) ?_
  rintro a s o t _ ⟨⟨⟨r, u, e1, ⟨e2, e3⟩, e4⟩, hF⟩, L, hE, hL⟩
  exact Or.inl ⟨⟨⟨r, u, e1, ⟨rfl, e2, e3⟩, e4⟩, hF⟩, L, fe_mono hE (Nat.zero_le _) (Nat.zero_le _), hL⟩
theorem CRes.writeX (h : ∀ sz, Met l y ws RMo (va_Pc av (hfFX dC dI A cI cQ sz σ)) (va_Qi (fun (r : Int32) (τ : HS) => r = v ∧ S τ) (hfB dC dI A cI cQ (va_A (hfW A cI cQ σ) sz)) (va_A (hfW A cI cQ σ) sz)) 0 0 (va_A (hfW A cI cQ σ) sz)) : CRes l dC dI A cI cQ σ y ws av none v S := by
  intro sz
  refine MetFree.mono (MetFree.respec (S' := headSpec ws RMc) (h sz) (fun _ _ q => q) (Nat.le_of_ble_eq_true rfl) (Nat.le_of_ble_eq_true rfl) (Nat.le_of_ble_eq_true rfl) (Nat.le_of_ble_eq_true rfl)) (fun a s q => q) (fun _ _ _ _ _ q => q) ?_
  rintro a s o t _ ⟨⟨⟨r, u, e1, ⟨e2, e3⟩, e4⟩, hF⟩, L, hE, hL⟩
  exact Or.inl ⟨⟨⟨r, u, e1, ⟨rfl, e2, e3⟩, e4⟩, hF⟩, L, fe_mono hE (Nat.zero_le _) (Nat.zero_le _), hL⟩
theorem CRes.throw (h : ∀ sz, vx_Met l y ws RMx (va_Pc av (PTw dC dI A cI cQ sz σ)) (qiE sz) (xcE sz E) 1 6 (fun q => sz ≤ q)) : CRes l dC dI A cI cQ σ y ws av (some E) v (fun τ => τ = σ) := by
  intro sz
  refine MetFree.mono (MetFree.respec (S' := headSpec ws RMc) (h sz) (fun _ _ q => q) (Nat.le_of_ble_eq_true rfl) (Nat.le_of_ble_eq_true rfl) (Nat.le_of_ble_eq_true rfl) (Nat.le_of_ble_eq_true rfl)) (fun a s q => ⟨q.1, q.2.1.1, q.2.1.2.1, q.2.1.2.2.1, q.2.2.narrow fun _ z => Or.inr z⟩) (fun _ _ _ _ _ q => q) ?_
  rintro a s o t ⟨_, ⟨hsz, hP, _, hD⟩, _⟩ (⟨⟨⟨_, _, _, hf, _⟩, _⟩, _⟩ | ⟨q, e1, E', ce, L, ⟨u, _, e2, hF⟩, e3, e4, e5, e6, e7, hL⟩)
  · exact hf.elim
  · refine Or.inr ⟨q, e1, E', ce, L, ⟨σ, rfl, ⟨by rw [e2], hP.kept fun k q hk => ?_, hD.self⟩, hF.1, fun q h1 h2 => hF.2 q h1 fun z => h2 (Or.inr z)⟩, e3, e4, e5, e6, e7, fun z hz => Or.inr (hL z hz)⟩
    have := vx_lt hP hk
    exact hF.2 _ this (by show ¬ sz ≤ q.1; omega)
theorem CRes.throwX (h : ∀ sz, vx_Met l y ws RMx (va_Pc av (hfFX dC dI A cI cQ sz σ)) (va_Qi (fun _ (_ : Unit) => False) (fun _ _ => True) (va_A (hfW A cI cQ σ) sz)) (vx_X S (fun E' τ t => E' = E ∧ hfB dC dI A cI cQ (va_A (hfW A cI cQ σ) sz) τ t) (va_A (hfW A cI cQ σ) sz)) 1 6 (va_A (hfW A cI cQ σ) sz)) : CRes l dC dI A cI cQ σ y ws av (some E) v S := by
  intro sz
  refine MetFree.mono (MetFree.respec (S' := headSpec ws RMc) (h sz) (fun _ _ q => q) (Nat.le_of_ble_eq_true rfl) (Nat.le_of_ble_eq_true rfl) (Nat.le_of_ble_eq_true rfl) (Nat.le_of_ble_eq_true rfl)) (fun a s q => q) (fun _ _ _ _ _ q => q) ?_
  rintro a s o t _ (⟨⟨⟨_, _, _, hf, _⟩, _⟩, _⟩ | ⟨q, e1, E', ce, L, ⟨u, e0, ⟨e2, e8⟩, hF⟩, e3, e4, e5, e6, e7, hL⟩)
  · exact hf.elim
  · exact Or.inr ⟨q, e1, E', ce, L, ⟨u, e0, ⟨by rw [e2], e8⟩, hF⟩, e3, e4, e5, e6, e7, hL⟩
end CRES
/-- of a method that never throws -/
def CRes0 (l : Launch) (dC : Nat → ClassId) (dI : Nat → Nat → Nat) (A : Nat → Nat) (cI cQ : ClassId) (σ : HS) (y : MethodName) (ws : List Cond) (av : List Value) (v : Int32) (S : HS → Prop) : Prop :=
  ∀ sz, Met l y ws RMo (va_Pc av (hfF dC dI A cI cQ sz σ)) (va_Qi (fun (r : Int32) (τ : HS) => r = v ∧ S τ) (hfB dC dI A cI cQ (va_A (hfW A cI cQ σ) sz)) (va_A (hfW A cI cQ σ) sz)) 0 0 (va_A (hfW A cI cQ σ) sz)
theorem CRes0.read {l : Launch} {dC : Nat → ClassId} {dI : Nat → Nat → Nat} {A : Nat → Nat} {cI cQ : ClassId} {σ : HS} {y : MethodName} {ws : List Cond} {av : List Value} {v : Int32} (h : Met l y ws RMo (va_Pc av (hfP dC dI A cI cQ σ)) (vp_Si (fun r => r = v)) 0 0 (fun _ => False)) : CRes0 l dC dI A cI cQ σ y ws av v (fun τ => τ = σ) := by
  intro sz
  refine MetFree.mono h (fun a s q => ⟨q.1, q.2.2.1, q.2.2.2.1⟩) (fun _ _ _ _ _ q => q) ?_
  rintro a s o t ⟨_, _, hP, _, hD⟩ ⟨⟨r, e1, e2, e3⟩, L, hF, hL⟩
  exact ⟨⟨⟨r, σ, e1, ⟨e2, rfl⟩, by rw [e3]; exact hP, hD.self⟩, by rw [e3]; exact Nat.le_refl _, fun q _ _ => by rw [e3]⟩, L, hF, fun q hq => (hL q hq).elim⟩
/-- a call of the reference -/
def MRes (l : Launch) (dC : Nat → ClassId) (dI : Nat → Nat → Nat) (AB : Nat → Nat) (cI cZ : ClassId) (τ : MS) (y : MethodName) (ws : List Cond) (av : List Value) (v : Int32) (T : MS → Prop) : Prop :=
  ∀ sz, Met l y ws { frames := 12, cells := 0, slots := 0, locals := 600 } (va_Pc av (mF dC dI AB cI cZ sz τ)) (va_Qi (fun (r : Int32) (τ2 : MS) => r = v ∧ T τ2) (mB dC dI AB cI cZ (va_A (mW AB cI cZ τ) sz)) (va_A (mW AB cI cZ τ) sz)) 0 0 (va_A (mW AB cI cZ τ) sz)
def RelE (σ : HS) (τ : MS) : Prop := ∃ (th : Nat → Bool) (ef : Nat → Nat) (se : Nat → Option Nat) (C m c0 : Nat) (ta tp tq : Nat → Option Nat) (ht : Nat → Nat), Rel σ τ th ef se C m c0 ta tp tq ht
def Agr (l : Launch) (dC : Nat → ClassId) (dI : Nat → Nat → Nat) (A AB : Nat → Nat) (cI cQ cZ : ClassId) (σ : HS) (τ : MS) (yc : MethodName) (wsc : List Cond) (ym : MethodName) (wsm : List Cond) (as : List Value) (es : List String) : Prop :=
  ∃ (oE : Option String) (v : Int32) (S : HS → Prop) (w : Int32) (T : MS → Prop), CRes l dC dI A cI cQ σ yc wsc (.ref (A 0) :: as) oE v S ∧ MRes l dC dI AB cI cZ τ ym wsm (.ref (AB 0) :: as) w T ∧
    (oE = none ∧ w = v ∧ (∀ σ' τ', S σ' → T τ' → τ'.1 0 = 0 ∧ RelE σ' τ') ∨ ∃ k, k < es.length ∧ oE = es[k]? ∧ ∀ σ' τ', S σ' → T τ' → τ'.1 0 = nI (k + 1) ∧ RelE σ' τ')
def Agr0 (l : Launch) (dC : Nat → ClassId) (dI : Nat → Nat → Nat) (A AB : Nat → Nat) (cI cQ cZ : ClassId) (σ : HS) (τ : MS) (yc : MethodName) (wsc : List Cond) (ym : MethodName) (wsm : List Cond) : Prop :=
  ∃ (v : Int32) (S : HS → Prop) (T : MS → Prop), CRes0 l dC dI A cI cQ σ yc wsc [.ref (A 0)] v S ∧ MRes l dC dI AB cI cZ τ ym wsm [.ref (AB 0)] v T ∧ ∀ σ' τ', S σ' → T τ' → RelE σ' τ'
