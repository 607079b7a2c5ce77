/-! ===== the reference's search without recursion: what its loop comes to ===== -/
theorem dpt_a (f : Nat) : nI f + (-1) = dpt f := by rw [← dpt_s]; exact (Int32.sub_eq_add_neg ..).symm
def gW (pc : Nat) (p : Program) (l : Launch) (e : Env) (R : Room) (s : State) (m : MethodId) (args : Array Value) (below : List Frame) (meth : Method) (c : Code) (cells slots : Nat) (Q : State → Prop) (X : Array Slot → Heap → List Loc → Prop) : Prop :=
  ∀ (ls : Array Slot) (H : Heap) (locs : List Loc), X ls H locs → W p l e R s m args below meth c H locs cells slots Q (F0 m pc ls [])
def agr (d : Nat) (ak' ak : Nat → Int32) : Prop := ∀ i, i < d → ak' i = ak i
theorem agr.trans {d : Nat} {x y z : Nat → Int32} (h : agr d x y) (h2 : agr d y z) : agr d x z := fun i hi => (h i hi).trans (h2 i hi)
theorem agr.le {d d' : Nat} {x y : Nat → Int32} (h : agr d x y) (hd : d' ≤ d) : agr d' x y := fun i hi => h i (by omega)
theorem upd_eq {f : Nat → Int32} {k : Nat} {v : Int32} : upd f k v k = v := by unfold upd; exact if_pos rfl
theorem upd_ne {f : Nat → Int32} {k j : Nat} {v : Int32} (h : ¬ j = k) : upd f k v j = f j := by unfold upd; exact if_neg h
theorem agr.upd {d k : Nat} {x y : Nat → Int32} {v : Int32} (h : agr d x y) (hd : d ≤ k) : agr d (upd x k v) y := fun i hi => by rw [upd_ne (by omega)]; exact h i hi
theorem agr.rf {d : Nat} {x : Nat → Int32} : agr d x x := fun _ _ => rfl
section DFS
variable {p : Program} {l : Launch} {e : Env} {R : Room} {s : State} {m : MethodId} {args : Array Value} {below : List Frame} {meth : Method} {c : Code} {cells slots : Nat} {Q : State → Prop}
theorem w_dfs (I : Nat → Int32 → (Nat → Int32) → (Nat → Int32) → (Nat → Int32) → Array Slot → Heap → List Loc → Prop)
    (us : Nat → Int32 → Bool) (pt : Nat → Int32 → Int32 → Int32) (re : Int32 → Bool) (n : Nat) (hre0 : re 0 = true)
    (ha1 : ∀ (d : Nat) (ak tk sk : Nat → Int32), d ≤ n → tk d = -1 → re (ak d) = true → gW 19 p l e R s m args below meth c cells slots Q (I d 1 ak tk sk) → gW 19 p l e R s m args below meth c cells slots Q (I (d + 1) 0 ak tk sk))
    (ha2 : ∀ (ak tk sk : Nat → Int32), tk n = -1 → re (ak n) = false → gW 19 p l e R s m args below meth c cells slots Q (I n 2 ak tk sk) → gW 19 p l e R s m args below meth c cells slots Q (I (n + 1) 0 ak tk sk))
    (ha3 : ∀ (d : Nat) (ak tk sk : Nat → Int32), d < n → tk d = -1 → re (ak d) = false → gW 119 p l e R s m args below meth c cells slots Q (I (d + 1) 0 ak tk sk) → gW 19 p l e R s m args below meth c cells slots Q (I (d + 1) 0 ak tk sk))
    (hb : ∀ (d : Nat) (ak tk sk : Nat → Int32), d ≤ n → sk d = 1 → gW 19 p l e R s m args below meth c cells slots Q (I d 1 ak tk sk) → gW 19 p l e R s m args below meth c cells slots Q (I (d + 1) 1 ak tk sk))
    (hc : ∀ (d : Nat) (ak tk sk : Nat → Int32), d ≤ n → sk d = 0 → gW 179 p l e R s m args below meth c cells slots Q (I (d + 1) 1 ak tk (upd sk d 1)) → gW 19 p l e R s m args below meth c cells slots Q (I (d + 1) 1 ak tk sk))
    (hd : ∀ (d : Nat) (ak tk sk : Nat → Int32), d ≤ n → gW 119 p l e R s m args below meth c cells slots Q (I (d + 1) 2 ak tk sk) → gW 19 p l e R s m args below meth c cells slots Q (I (d + 1) 2 ak tk sk))
    (he : ∀ (d : Nat) (an : Int32) (ak tk sk : Nat → Int32), d ≤ n → gW 136 p l e R s m args below meth c cells slots Q (I (d + 1) an ak (upd tk d (tk d + 1)) (upd sk d 0)) → gW 119 p l e R s m args below meth c cells slots Q (I (d + 1) an ak tk sk))
    (hf1 : ∀ (d t : Nat) (an : Int32) (ak tk sk : Nat → Int32), d ≤ n → t < 8 → tk d = nI t → us t (ak d) = false → gW 136 p l e R s m args below meth c cells slots Q (I (d + 1) an ak (upd tk d (nI (t + 1))) sk) → gW 136 p l e R s m args below meth c cells slots Q (I (d + 1) an ak tk sk))
    (hf2 : ∀ (d t : Nat) (an : Int32) (ak tk sk : Nat → Int32), d ≤ n → t < 8 → tk d = nI t → us t (ak d) = true → gW 179 p l e R s m args below meth c cells slots Q (I (d + 1) an ak tk sk) → gW 136 p l e R s m args below meth c cells slots Q (I (d + 1) an ak tk sk))
    (hf3 : ∀ (d : Nat) (an : Int32) (ak tk sk : Nat → Int32), d ≤ n → tk d = nI 8 → gW 19 p l e R s m args below meth c cells slots Q (I d 2 ak tk sk) → gW 136 p l e R s m args below meth c cells slots Q (I (d + 1) an ak tk sk))
    (hg1 : ∀ (d t : Nat) (an : Int32) (ak tk sk : Nat → Int32), d < n → t < 8 → tk d = nI t → pt t (ak d) (sk d) = 0 → gW 19 p l e R s m args below meth c cells slots Q (I (d + 1) 1 ak tk sk) → gW 179 p l e R s m args below meth c cells slots Q (I (d + 1) an ak tk sk))
    (hg2 : ∀ (d t : Nat) (an : Int32) (ak tk sk : Nat → Int32), d < n → t < 8 → tk d = nI t → ¬ pt t (ak d) (sk d) = 0 → gW 19 p l e R s m args below meth c cells slots Q (I (d + 1 + 1) 0 (upd ak (d + 1) (pt t (ak d) (sk d))) (upd tk (d + 1) (-1)) sk) → gW 179 p l e R s m args below meth c cells slots Q (I (d + 1) an ak tk sk)) :
    ∀ (ak tk sk : Nat → Int32), tk 0 = -1 → (slv us pt re n (ak 0) = true → ∀ ak' tk' sk' : Nat → Int32, gW 19 p l e R s m args below meth c cells slots Q (I 0 1 ak' tk' sk')) → (slv us pt re n (ak 0) = false → ∀ ak' tk' sk' : Nat → Int32, gW 19 p l e R s m args below meth c cells slots Q (I 0 2 ak' tk' sk')) →
      ∀ (ls : Array Slot) (H : Heap) (locs : List Loc), I 1 0 ak tk sk ls H locs → W p l e R s m args below meth c H locs cells slots Q (F0 m 19 ls []) := by
  have s0 : ∀ k, slv us pt re k 0 = true := by
    intro k
    rw [slv_lea, hre0]; rfl
  have key : ∀ (k d : Nat) (ak tk sk : Nat → Int32), d + k = n → tk d = -1 →
      (slv us pt re k (ak d) = true → ∀ ak' tk' sk' : Nat → Int32, agr d ak' ak → agr d tk' tk → agr d sk' sk → gW 19 p l e R s m args below meth c cells slots Q (I d 1 ak' tk' sk')) →
      (slv us pt re k (ak d) = false → ∀ ak' tk' sk' : Nat → Int32, agr d ak' ak → agr d tk' tk → agr d sk' sk → gW 19 p l e R s m args below meth c cells slots Q (I d 2 ak' tk' sk')) →
      gW 19 p l e R s m args below meth c cells slots Q (I (d + 1) 0 ak tk sk) := by
    intro k
    induction k with
    | zero =>
      intro d ak tk sk hdn htk h1 h2
      obtain rfl : d = n := by omega
      cases hr : re (ak d) with
      | true => exact ha1 d ak tk sk (by omega) htk hr (h1 hr ak tk sk agr.rf agr.rf agr.rf)
      | false => exact ha2 ak tk sk htk hr (h2 hr ak tk sk agr.rf agr.rf agr.rf)
    | succ k ih =>
      intro d ak tk sk hdn htk h1 h2
      cases hr : re (ak d) with
      | true => exact ha1 d ak tk sk (by omega) htk hr (h1 (by unfold slv; rw [hr]; rfl) ak tk sk agr.rf agr.rf agr.rf)
      | false =>
        refine ha3 d ak tk sk (by omega) htk hr (he d 0 ak tk sk (by omega) ?_)
        -- the actions from t on
        have B : ∀ (j t : Nat), t + j = 8 → ∀ (x an : Int32) (ak tk sk : Nat → Int32), ak d = x → tk d = nI t → sk d = 0 →
            ((∃ a, t ≤ a ∧ a < 8 ∧ (us a x && (slv us pt re k (pt a x 0) && slv us pt re k (pt a x 1))) = true) → ∀ ak' tk' sk' : Nat → Int32, agr d ak' ak → agr d tk' tk → agr d sk' sk → gW 19 p l e R s m args below meth c cells slots Q (I d 1 ak' tk' sk')) →
            ((∀ a, t ≤ a → a < 8 → (us a x && (slv us pt re k (pt a x 0) && slv us pt re k (pt a x 1))) = false) → ∀ ak' tk' sk' : Nat → Int32, agr d ak' ak → agr d tk' tk → agr d sk' sk → gW 19 p l e R s m args below meth c cells slots Q (I d 2 ak' tk' sk')) →
            gW 136 p l e R s m args below meth c cells slots Q (I (d + 1) an ak tk sk) := by
          intro j
          induction j with
          | zero =>
            intro t ht x an ak tk sk hak htk hsk g1 g2
            obtain rfl : t = 8 := by omega
            exact hf3 d an ak tk sk (by omega) htk (g2 (fun a q1 q2 => absurd q2 (by omega)) ak tk sk agr.rf agr.rf agr.rf)
          | succ j ihj =>
            intro t ht x an ak tk sk hak htk hsk g1 g2
            -- the next action, if this one does not do
            have N : ∀ (an : Int32) (ak' tk' sk' : Nat → Int32), (us t x && (slv us pt re k (pt t x 0) && slv us pt re k (pt t x 1))) = false → ak' d = x → tk' d = nI (t + 1) → sk' d = 0 → agr d ak' ak → agr d tk' tk → agr d sk' sk → gW 136 p l e R s m args below meth c cells slots Q (I (d + 1) an ak' tk' sk') := by
              intro an ak' tk' sk' hno e1 e2 e3 q1 q2 q3
              refine ihj (t + 1) (by omega) x an ak' tk' sk' e1 e2 e3 ?_ ?_
              · rintro ⟨a, z1, z2, z3⟩ ak2 tk2 sk2 r1 r2 r3
                exact g1 ⟨a, by omega, z2, z3⟩ ak2 tk2 sk2 (r1.trans q1) (r2.trans q2) (r3.trans q3)
              · intro hall ak2 tk2 sk2 r1 r2 r3
                refine g2 (fun a z1 z2 => ?_) ak2 tk2 sk2 (r1.trans q1) (r2.trans q2) (r3.trans q3)
                rcases Nat.lt_or_ge t a with z | z
                · exact hall a z z2
                · obtain rfl : t = a := by omega
                  exact hno
            -- a part that is not solved: the next action
            have D : ∀ (ak' tk' sk' : Nat → Int32), (us t x && (slv us pt re k (pt t x 0) && slv us pt re k (pt t x 1))) = false → ak' d = x → tk' d = nI t → agr d ak' ak → agr d tk' tk → agr d sk' sk → gW 19 p l e R s m args below meth c cells slots Q (I (d + 1) 2 ak' tk' sk') := by
              intro ak' tk' sk' hno e1 e2 q1 q2 q3
              refine hd d ak' tk' sk' (by omega) (he d 2 ak' tk' sk' (by omega) ?_)
              exact N 2 ak' _ _ hno e1 (by rw [upd_eq, e2]; exact nI_1 t) upd_eq q1 (q2.upd (Nat.le_refl d)) (q3.upd (Nat.le_refl d))
            cases hu : us t x with
            | false => exact hf1 d t an ak tk sk (by omega) (by omega) htk (by rw [hak]; exact hu) (N an ak _ sk (by rw [hu]; rfl) hak upd_eq hsk agr.rf (agr.rf.upd (Nat.le_refl d)) agr.rf)
            | true =>
              refine hf2 d t an ak tk sk (by omega) (by omega) htk (by rw [hak]; exact hu) ?_
              -- the second part
              have V : slv us pt re k (pt t x 0) = true → ∀ (an : Int32) (ak' tk' sk' : Nat → Int32), ak' d = x → tk' d = nI t → sk' d = 1 → agr d ak' ak → agr d tk' tk → agr d sk' sk → gW 179 p l e R s m args below meth c cells slots Q (I (d + 1) an ak' tk' sk') := by
                intro h0 an ak' tk' sk' e1 e2 e3 q1 q2 q3
                have F : slv us pt re k (pt t x 1) = true → ∀ (ak2 tk2 sk2 : Nat → Int32), sk2 d = 1 → agr d ak2 ak → agr d tk2 tk → agr d sk2 sk → gW 19 p l e R s m args below meth c cells slots Q (I (d + 1) 1 ak2 tk2 sk2) := by
                  intro h3 ak2 tk2 sk2 z r1 r2 r3
                  exact hb d ak2 tk2 sk2 (by omega) z (g1 ⟨t, Nat.le_refl t, by omega, by rw [hu, h0, h3]; rfl⟩ ak2 tk2 sk2 r1 r2 r3)
                by_cases hp : pt t x 1 = 0
                · exact hg1 d t an ak' tk' sk' (by omega) (by omega) e2 (by rw [e1, e3]; exact hp) (F (by rw [hp]; exact s0 k) ak' tk' sk' e3 q1 q2 q3)
                · refine hg2 d t an ak' tk' sk' (by omega) (by omega) e2 (by rw [e1, e3]; exact hp) (ih (d + 1) _ _ sk' (by omega) upd_eq ?_ ?_)
                  · rw [upd_eq, e1, e3]
                    intro h3 ak2 tk2 sk2 r1 r2 r3
                    exact F h3 ak2 tk2 sk2 (by rw [r3 d (by omega)]; exact e3) (((r1.le (Nat.le_succ d)).trans (agr.rf.upd (Nat.le_succ d))).trans q1) (((r2.le (Nat.le_succ d)).trans (agr.rf.upd (Nat.le_succ d))).trans q2) ((r3.le (Nat.le_succ d)).trans q3)
                  · rw [upd_eq, e1, e3]
                    intro h3 ak2 tk2 sk2 r1 r2 r3
                    exact D ak2 tk2 sk2 (by rw [hu, h0, h3]; rfl) (by rw [r1 d (by omega), upd_ne (by omega)]; exact e1) (by rw [r2 d (by omega), upd_ne (by omega)]; exact e2) (((r1.le (Nat.le_succ d)).trans (agr.rf.upd (Nat.le_succ d))).trans q1) (((r2.le (Nat.le_succ d)).trans (agr.rf.upd (Nat.le_succ d))).trans q2) ((r3.le (Nat.le_succ d)).trans q3)
              have C : slv us pt re k (pt t x 0) = true → ∀ (ak2 tk2 sk2 : Nat → Int32), ak2 d = x → tk2 d = nI t → sk2 d = 0 → agr d ak2 ak → agr d tk2 tk → agr d sk2 sk → gW 19 p l e R s m args below meth c cells slots Q (I (d + 1) 1 ak2 tk2 sk2) := by
                intro h0 ak2 tk2 sk2 e1 e2 e3 r1 r2 r3
                exact hc d ak2 tk2 sk2 (by omega) e3 (V h0 1 ak2 tk2 _ e1 e2 upd_eq r1 r2 (r3.upd (Nat.le_refl d)))
              by_cases hp : pt t x 0 = 0
              · exact hg1 d t an ak tk sk (by omega) (by omega) htk (by rw [hak, hsk]; exact hp) (C (by rw [hp]; exact s0 k) ak tk sk hak htk hsk agr.rf agr.rf agr.rf)
              · refine hg2 d t an ak tk sk (by omega) (by omega) htk (by rw [hak, hsk]; exact hp) (ih (d + 1) _ _ sk (by omega) upd_eq ?_ ?_)
                · rw [upd_eq, hak, hsk]
                  intro h3 ak2 tk2 sk2 r1 r2 r3
                  exact C h3 ak2 tk2 sk2 (by rw [r1 d (by omega), upd_ne (by omega)]; exact hak) (by rw [r2 d (by omega), upd_ne (by omega)]; exact htk) (by rw [r3 d (by omega)]; exact hsk) ((r1.le (Nat.le_succ d)).trans (agr.rf.upd (Nat.le_succ d))) ((r2.le (Nat.le_succ d)).trans (agr.rf.upd (Nat.le_succ d))) (r3.le (Nat.le_succ d))
                · rw [upd_eq, hak, hsk]
                  intro h3 ak2 tk2 sk2 r1 r2 r3
                  exact D ak2 tk2 sk2 (by rw [hu, h3]; rfl) (by rw [r1 d (by omega), upd_ne (by omega)]; exact hak) (by rw [r2 d (by omega), upd_ne (by omega)]; exact htk) ((r1.le (Nat.le_succ d)).trans (agr.rf.upd (Nat.le_succ d))) ((r2.le (Nat.le_succ d)).trans (agr.rf.upd (Nat.le_succ d))) (r3.le (Nat.le_succ d))
        refine B 8 0 (by omega) (ak d) 0 ak _ _ rfl (by rw [upd_eq, htk]; rfl) upd_eq ?_ ?_
        · rintro ⟨a, z1, z2, z3⟩ ak2 tk2 sk2 r1 r2 r3
          refine h1 ?_ ak2 tk2 sk2 r1 (r2.trans (agr.rf.upd (Nat.le_refl d))) (r3.trans (agr.rf.upd (Nat.le_refl d)))
          unfold slv
          rw [hr, Bool.false_or]
          cases hq : first8 (fun a => us a (ak d) && (slv us pt re k (pt a (ak d) 0) && slv us pt re k (pt a (ak d) 1))) with
          | some v => rfl
          | none => exact absurd (List.find?_range_eq_none.mp hq a z2) (by show ¬ (!(us a (ak d) && (slv us pt re k (pt a (ak d) 0) && slv us pt re k (pt a (ak d) 1)))) = true; rw [z3]; decide)
        · intro hall ak2 tk2 sk2 r1 r2 r3
          refine h2 ?_ ak2 tk2 sk2 r1 (r2.trans (agr.rf.upd (Nat.le_refl d))) (r3.trans (agr.rf.upd (Nat.le_refl d)))
          unfold slv
          rw [hr, Bool.false_or, show first8 (fun a => us a (ak d) && (slv us pt re k (pt a (ak d) 0) && slv us pt re k (pt a (ak d) 1))) = none from find_no fun j hj => hall j (Nat.zero_le j) hj]
          rfl
  intro ak tk sk htk h1 h2 ls H locs hI
  exact key n 0 ak tk sk (by omega) htk (fun q ak' tk' sk' _ _ _ => h1 q ak' tk' sk') (fun q ak' tk' sk' _ _ _ => h2 q ak' tk' sk') ls H locs hI
end DFS
